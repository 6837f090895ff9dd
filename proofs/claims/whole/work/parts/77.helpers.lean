/-! The law's helpers. -/
def kl_cd {α : Type} (T : Nat → Int32) (r : Nat ⊕ α) : Int32 := match r with
  | .inl n => T n
  | .inr _ => 0
def kl_xI (xs : Nat → Int64) (r : Nat ⊕ Int32) : Nat → Int64 := match r with
  | .inl _ => xs
  | .inr v => vp_updL xs 0 v.toInt64
def kl_xL (xs : Nat → Int64) (r : Nat ⊕ Int64) : Nat → Int64 := match r with
  | .inl _ => xs
  | .inr v => vp_updL xs 0 v
theorem kX_feedL {S : Nat → Prop} (f : Nat) : ∀ (l1 : Int64) (l4 : Int32) (σ : kt_S), kX S (kp_K_feed_63 f l1 l4 σ) := by
  induction f with
  | zero => intro l1 l4 σ; exact kX_none
  | succ f ih =>
    intro l1 l4 σ
    show kX S (kp_K_feed_63b (kp_K_feed_63 f) l1 l4 σ)
    unfold kp_K_feed_63b
    exact kX_ite kX_inr (kX_bind fun x => ih _ _ _)
theorem kX_feed (l1 : Int64) (l3 : Int32) (σ : kt_S) : kX (fun e => e = 0 ∨ e = 1) (kp_K_feed l1 l3 σ) := by
  unfold kp_K_feed kp_K_feed_0 kp_K_feed_48
  exact kX_ite (kX_inl (Or.inl rfl)) (kX_ite (kX_inl (Or.inr rfl)) (kX_ite (kX_inl (Or.inr rfl)) (kX_bind fun x => kX_ite (kX_feedL _ _ _ _) (kX_inl (Or.inr rfl)))))
theorem kX_send (σ : kt_S) : kX (fun e => e = 0) (kp_K_send σ) := by
  unfold kp_K_send kp_K_send_0
  exact kX_ite (kX_inl rfl) (kX_bind fun x => kX_inr)
theorem kX_takeL {S : Nat → Prop} (f : Nat) : ∀ (l1 : Int64) (l4 : Int32) (σ : kt_S), kX S (kp_K_take_27 f l1 l4 σ) := by
  induction f with
  | zero => intro l1 l4 σ; exact kX_none
  | succ f ih =>
    intro l1 l4 σ
    show kX S (kp_K_take_27b (kp_K_take_27 f) l1 l4 σ)
    unfold kp_K_take_27b kp_K_take_69
    exact kX_ite kX_inr (kX_bind fun x => kX_ite kX_inr (kX_bind fun x => ih _ _ _))
theorem kX_take (σ : kt_S) : kX (fun e => e = 2) (kp_K_take σ) := by
  unfold kp_K_take kp_K_take_0
  exact kX_bind fun x => kX_ite (kX_inl rfl) (kX_takeL _ _ _ _)
theorem kX_open (l1 l2 : Int32) (σ : kt_S) : kX (fun e => e = 3) (kp_K_open l1 l2 σ) := by
  unfold kp_K_open kp_K_open_0 kp_K_open_20
  repeat' first
    | exact kX_inr
    | exact kX_inl rfl
    | apply kX_ite
theorem kX_signature (l1 l2 : Int32) (σ : kt_S) : kX (fun e => e = 2) (kp_K_signature l1 l2 σ) := by
  unfold kp_K_signature kp_K_signature_0 kp_K_signature_25
  repeat' first
    | exact kX_inr
    | exact kX_inl rfl
    | apply kX_ite
    | (apply kX_bind; intro x)
theorem kX_offer (l1 l2 l3 l4 : Int32) (σ : kt_S) : kX (fun e => e = 3 ∨ e = 2 ∨ e = 0) (kp_K_offer l1 l2 l3 l4 σ) := by
  unfold kp_K_offer kp_K_offer_0 kp_K_offer_21
  repeat' first
    | exact kX_inr
    | exact kX_inl (Or.inl rfl)
    | exact kX_inl (Or.inr (Or.inl rfl))
    | exact kX_inl (Or.inr (Or.inr rfl))
    | apply kX_ite
    | (apply kX_bind; intro x)
theorem kX_cer16 (σ : kt_S) : kX (fun e => e = 3 ∨ e = 0) (kp_K_ceremony_117_r16 σ) := by
  unfold kp_K_ceremony_117_r16
  repeat' first
    | exact kX_inr
    | exact kX_inl (Or.inl rfl)
    | exact kX_inl (Or.inr rfl)
    | apply kX_ite
    | (apply kX_bind; intro x)
theorem kX_cer20 (σ : kt_S) : kX (fun e => e = 3 ∨ e = 0) (kp_K_ceremony_117_r20 σ) := by
  unfold kp_K_ceremony_117_r20
  repeat' first
    | exact kX_inr
    | exact kX_inl (Or.inl rfl)
    | exact kX_inl (Or.inr rfl)
    | apply kX_ite
    | (apply kX_bind; intro x)
theorem kX_cer24 (σ : kt_S) : kX (fun e => e = 3 ∨ e = 0) (kp_K_ceremony_117_r24 σ) := by
  unfold kp_K_ceremony_117_r24
  repeat' first
    | exact kX_inr
    | exact kX_inl (Or.inl rfl)
    | exact kX_inl (Or.inr rfl)
    | apply kX_ite
    | (apply kX_bind; intro x)
theorem kX_cer28 (σ : kt_S) : kX (fun e => e = 3 ∨ e = 0) (kp_K_ceremony_117_r28 σ) := by
  unfold kp_K_ceremony_117_r28
  repeat' first
    | exact kX_inr
    | exact kX_inl (Or.inl rfl)
    | exact kX_inl (Or.inr rfl)
    | apply kX_ite
    | (apply kX_bind; intro x)
theorem kX_ceremony (l1 l2 l3 l4 : Int32) (σ : kt_S) : kX (fun e => e = 3 ∨ e = 0) (kp_K_ceremony l1 l2 l3 l4 σ) := by
  unfold kp_K_ceremony kp_K_ceremony_0 kp_K_ceremony_20 kp_K_ceremony_48
  repeat' first
    | exact kX_inr
    | exact kX_inl (Or.inl rfl)
    | exact kX_inl (Or.inr rfl)
    | with_reducible exact kX_cer16 _
    | with_reducible exact kX_cer20 _
    | with_reducible exact kX_cer24 _
    | with_reducible exact kX_cer28 _
    | apply kX_ite
    | (apply kX_bind; intro x)
theorem dk_L_feed_0 : decode kb_L_feed 0 = .ok (.aload_n 0, 1) := by decide +kernel
theorem dk_L_feed_1 : decode kb_L_feed 1 = .ok (.lload_n 1, 1) := by decide +kernel
theorem dk_L_feed_2 : decode kb_L_feed 2 = .ok (.iload_n 3, 1) := by decide +kernel
theorem dk_L_feed_3 : decode kb_L_feed 3 = .ok (.invokevirtual 7, 3) := by decide +kernel
theorem dk_L_feed_6 : decode kb_L_feed 6 = .ok (.goto 11, 3) := by decide +kernel
theorem dk_L_feed_17 : decode kb_L_feed 17 = .ok (.iconst 0, 1) := by decide +kernel
theorem dk_L_feed_18 : decode kb_L_feed 18 = .ok (.ireturn, 1) := by decide +kernel
theorem dk_L_feed_9 : decode kb_L_feed 9 = .ok (.astore 4, 2) := by decide +kernel
theorem dk_L_feed_11 : decode kb_L_feed 11 = .ok (.iconst 1, 1) := by decide +kernel
theorem dk_L_feed_12 : decode kb_L_feed 12 = .ok (.ireturn, 1) := by decide +kernel
theorem dk_L_feed_13 : decode kb_L_feed 13 = .ok (.astore 4, 2) := by decide +kernel
theorem dk_L_feed_15 : decode kb_L_feed 15 = .ok (.iconst 2, 1) := by decide +kernel
theorem dk_L_feed_16 : decode kb_L_feed 16 = .ok (.ireturn, 1) := by decide +kernel
set_option maxHeartbeats 4000000 in
theorem kh_feed {l : Launch} (hf : l.flags = pinnedFlags ++ [noTraceFlag]) {D : va_G} {cA : Nat → ClassId} {as : Nat → Nat} {cL : ClassId} {o sz : Nat} {xs : Nat → Int64} {σ σ' : kt_S} (l1 : Int64) (l3 : Int32) (r : Nat ⊕ Unit) (hF : kp_K_feed l1 l3 σ = some (r, σ')) (ho : ∀ k, k < kt_shC.length → ¬ as k = o) : Met l ky_L_feed kl_G (kt_rm 30 1 6) (va_Pc [.ref (as 0), .long l1, .int l3] (kl_HP D cA as cL o xs σ sz)) (kl_HQ D cA as cL o (kl_cd kT_feed r) xs σ' sz) 1 6 (kl_HA as o sz) := by
  refine kl_hmet (b := 6) (ts := [(9, 0), (13, 1)]) (Qc := fun z => kl_HQ D cA as cL o (kl_cd kT_feed r) xs σ' z) (by decide) rfl (kl_w 12 rfl) ho ?_
  intro p e s m below meth c Bd
  have hx := Bd.1
  have hb := Bd.2.1
  have hl := lv_entry ([.ref (as 0), .long l1, .int l3]) (n := 5) (Nat.le_of_ble_eq_true rfl)
  rw [lg_entry_eq]
  generalize (lg_sl ([.ref (as 0), .long l1, .int l3]) ++ List.replicate (5 - (lg_sl ([.ref (as 0), .long l1, .int l3])).length) Slot.unset).toArray = ls at hl ⊢
  have hl : lv_has ls 5 [(0, .ref (as 0)), (1, .long l1), (3, .int l3)] := hl
  refine lv_aload_n hx hb dk_L_feed_0 rfl (lv_at hl 0 rfl) ?_
  refine lv_lload_n hx hb dk_L_feed_1 rfl (lv_at hl 1 rfl) ?_
  refine lv_iload_n hx hb dk_L_feed_2 rfl (lv_at hl 2 rfl) ?_
  cases r with
  | inl n =>
    have hF' : kf_K_feed [.ref 0, .long l1, .int l3] σ = some (some (.ref (1000 + n)), σ') := by rw [kq_K_feed, hF]; rfl
    rcases kX_feed _ _ _ _ _ hF with rfl | rfl
    · exact kl_hthr (k0 := 0) (tgt := 9) (av := [.long l1, .int l3]) (rest := []) Bd (km_K_feed hf) hF' kv_K_feed (kl_w 15 rfl) rfl hl.1 ⟨by decide, by decide⟩ (Nat.le_of_ble_eq_true rfl) dk_L_feed_3 (by decide) (by decide) rfl (fun k hk => absurd hk (Nat.not_lt_zero k)) (fun a H1 locs1 h1 h2 h3 => kl_hcat (n := 1) Bd hl (Or.inl ⟨4, by decide, dk_L_feed_9, dk_L_feed_11, dk_L_feed_12⟩) (by decide) h1 h2 h3)
    · exact kl_hthr (k0 := 1) (tgt := 13) (av := [.long l1, .int l3]) (rest := []) Bd (km_K_feed hf) hF' kv_K_feed (kl_w 15 rfl) rfl hl.1 ⟨by decide, by decide⟩ (Nat.le_of_ble_eq_true rfl) dk_L_feed_3 (by decide) (by decide) rfl (fun k hk => by (obtain rfl : k = 0 := by omega); exact (by decide)) (fun a H1 locs1 h1 h2 h3 => kl_hcat (n := 2) Bd hl (Or.inl ⟨4, by decide, dk_L_feed_13, dk_L_feed_15, dk_L_feed_16⟩) (by decide) h1 h2 h3)
  | inr v =>
    have hF' : kf_K_feed [.ref 0, .long l1, .int l3] σ = some (none, σ') := by rw [kq_K_feed, hF]; rfl
    refine kl_hok (av := [.long l1, .int l3]) (rest := []) Bd (km_K_feed hf) hF' rfl kv_K_feed (kl_w 15 rfl) rfl hl.1 ⟨by decide, by decide⟩ (Nat.le_of_ble_eq_true rfl) dk_L_feed_3 (fun H1 locs1 h1 h2 h3 => ?_)
    refine lv_goto hx hb dk_L_feed_6 (tgt := 17) (by decide) ?_
    exact kl_hend Bd dk_L_feed_17 rfl dk_L_feed_18 h1 h2 h3
theorem dk_L_send_0 : decode kb_L_send 0 = .ok (.aload_n 1, 1) := by decide +kernel
theorem dk_L_send_1 : decode kb_L_send 1 = .ok (.iconst 0, 1) := by decide +kernel
theorem dk_L_send_2 : decode kb_L_send 2 = .ok (.aload_n 0, 1) := by decide +kernel
theorem dk_L_send_3 : decode kb_L_send 3 = .ok (.invokevirtual 17, 3) := by decide +kernel
theorem dk_L_send_6 : decode kb_L_send 6 = .ok (.i2l, 1) := by decide +kernel
theorem dk_L_send_7 : decode kb_L_send 7 = .ok (.lastore, 1) := by decide +kernel
theorem dk_L_send_8 : decode kb_L_send 8 = .ok (.goto 6, 3) := by decide +kernel
theorem dk_L_send_14 : decode kb_L_send 14 = .ok (.iconst 0, 1) := by decide +kernel
theorem dk_L_send_15 : decode kb_L_send 15 = .ok (.ireturn, 1) := by decide +kernel
theorem dk_L_send_11 : decode kb_L_send 11 = .ok (.astore_n 2, 1) := by decide +kernel
theorem dk_L_send_12 : decode kb_L_send 12 = .ok (.iconst 1, 1) := by decide +kernel
theorem dk_L_send_13 : decode kb_L_send 13 = .ok (.ireturn, 1) := by decide +kernel
set_option maxHeartbeats 4000000 in
theorem kh_send {l : Launch} (hf : l.flags = pinnedFlags ++ [noTraceFlag]) {D : va_G} {cA : Nat → ClassId} {as : Nat → Nat} {cL : ClassId} {o sz : Nat} {xs : Nat → Int64} {σ σ' : kt_S}  (r : Nat ⊕ Int32) (hF : kp_K_send σ = some (r, σ')) (ho : ∀ k, k < kt_shC.length → ¬ as k = o) : Met l ky_L_send kl_G (kt_rm 30 1 6) (va_Pc [.ref (as 0), .ref o] (kl_HP D cA as cL o xs σ sz)) (kl_HQ D cA as cL o (kl_cd (fun _ => 1) r) (kl_xI xs r) σ' sz) 1 6 (kl_HA as o sz) := by
  refine kl_hmet (b := 8) (ts := [(11, 0)]) (Qc := fun z => kl_HQ D cA as cL o (kl_cd (fun _ => 1) r) (kl_xI xs r) σ' z) (by decide) rfl (kl_w 18 rfl) ho ?_
  intro p e s m below meth c Bd
  have hx := Bd.1
  have hb := Bd.2.1
  have hl := lv_entry ([.ref (as 0), .ref o]) (n := 3) (Nat.le_of_ble_eq_true rfl)
  rw [lg_entry_eq]
  generalize (lg_sl ([.ref (as 0), .ref o]) ++ List.replicate (3 - (lg_sl ([.ref (as 0), .ref o])).length) Slot.unset).toArray = ls at hl ⊢
  have hl : lv_has ls 3 [(0, .ref (as 0)), (1, .ref o)] := hl
  refine lv_aload_n hx hb dk_L_send_0 rfl (lv_at hl 1 rfl) ?_
  refine lv_iconst (v := 0) hx hb dk_L_send_1 (by decide) ?_
  refine lv_aload_n hx hb dk_L_send_2 rfl (lv_at hl 0 rfl) ?_
  cases r with
  | inl n =>
    have hF' : kf_K_send [.ref 0] σ = some (some (.ref (1000 + n)), σ') := by rw [kq_K_send, hF]; rfl
    obtain rfl := kX_send _ _ _ hF
    exact kl_hthr (k0 := 0) (tgt := 11) (av := []) (rest := [.int 0, .ref o]) Bd (km_K_send hf) hF' kv_K_send (kl_w 19 rfl) rfl hl.1 ⟨by decide, by decide⟩ (Nat.le_of_ble_eq_true rfl) dk_L_send_3 (by decide) (by decide) rfl (fun k hk => absurd hk (Nat.not_lt_zero k)) (fun a H1 locs1 h1 h2 h3 => kl_hcat (n := 1) Bd hl (Or.inr ⟨2, by decide, dk_L_send_11, dk_L_send_12, dk_L_send_13⟩) (by decide) h1 h2 h3)
  | inr v =>
    have hF' : kf_K_send [.ref 0] σ = some (some (.int v), σ') := by rw [kq_K_send, hF]; rfl
    refine kl_hok (av := []) (rest := [.int 0, .ref o]) Bd (km_K_send hf) hF' rfl kv_K_send (kl_w 19 rfl) rfl hl.1 ⟨by decide, by decide⟩ (Nat.le_of_ble_eq_true rfl) dk_L_send_3 (fun H1 locs1 h1 h2 h3 => ?_)
    refine lv_i2l hx hb dk_L_send_6 rfl ?_
    exact kl_hst (t2 := 14) Bd dk_L_send_7 dk_L_send_8 (by decide) dk_L_send_14 dk_L_send_15 h1 h2 h3
theorem dk_L_take_0 : decode kb_L_take 0 = .ok (.aload_n 1, 1) := by decide +kernel
theorem dk_L_take_1 : decode kb_L_take 1 = .ok (.iconst 0, 1) := by decide +kernel
theorem dk_L_take_2 : decode kb_L_take 2 = .ok (.aload_n 0, 1) := by decide +kernel
theorem dk_L_take_3 : decode kb_L_take 3 = .ok (.invokevirtual 21, 3) := by decide +kernel
theorem dk_L_take_6 : decode kb_L_take 6 = .ok (.lastore, 1) := by decide +kernel
theorem dk_L_take_7 : decode kb_L_take 7 = .ok (.goto 6, 3) := by decide +kernel
theorem dk_L_take_13 : decode kb_L_take 13 = .ok (.iconst 0, 1) := by decide +kernel
theorem dk_L_take_14 : decode kb_L_take 14 = .ok (.ireturn, 1) := by decide +kernel
theorem dk_L_take_10 : decode kb_L_take 10 = .ok (.astore_n 2, 1) := by decide +kernel
theorem dk_L_take_11 : decode kb_L_take 11 = .ok (.iconst 1, 1) := by decide +kernel
theorem dk_L_take_12 : decode kb_L_take 12 = .ok (.ireturn, 1) := by decide +kernel
set_option maxHeartbeats 4000000 in
theorem kh_take {l : Launch} (hf : l.flags = pinnedFlags ++ [noTraceFlag]) {D : va_G} {cA : Nat → ClassId} {as : Nat → Nat} {cL : ClassId} {o sz : Nat} {xs : Nat → Int64} {σ σ' : kt_S}  (r : Nat ⊕ Int64) (hF : kp_K_take σ = some (r, σ')) (ho : ∀ k, k < kt_shC.length → ¬ as k = o) : Met l ky_L_take kl_G (kt_rm 30 1 6) (va_Pc [.ref (as 0), .ref o] (kl_HP D cA as cL o xs σ sz)) (kl_HQ D cA as cL o (kl_cd (fun _ => 1) r) (kl_xL xs r) σ' sz) 1 6 (kl_HA as o sz) := by
  refine kl_hmet (b := 7) (ts := [(10, 2)]) (Qc := fun z => kl_HQ D cA as cL o (kl_cd (fun _ => 1) r) (kl_xL xs r) σ' z) (by decide) rfl (kl_w 22 rfl) ho ?_
  intro p e s m below meth c Bd
  have hx := Bd.1
  have hb := Bd.2.1
  have hl := lv_entry ([.ref (as 0), .ref o]) (n := 3) (Nat.le_of_ble_eq_true rfl)
  rw [lg_entry_eq]
  generalize (lg_sl ([.ref (as 0), .ref o]) ++ List.replicate (3 - (lg_sl ([.ref (as 0), .ref o])).length) Slot.unset).toArray = ls at hl ⊢
  have hl : lv_has ls 3 [(0, .ref (as 0)), (1, .ref o)] := hl
  refine lv_aload_n hx hb dk_L_take_0 rfl (lv_at hl 1 rfl) ?_
  refine lv_iconst (v := 0) hx hb dk_L_take_1 (by decide) ?_
  refine lv_aload_n hx hb dk_L_take_2 rfl (lv_at hl 0 rfl) ?_
  cases r with
  | inl n =>
    have hF' : kf_K_take [.ref 0] σ = some (some (.ref (1000 + n)), σ') := by rw [kq_K_take, hF]; rfl
    obtain rfl := kX_take _ _ _ hF
    exact kl_hthr (k0 := 0) (tgt := 10) (av := []) (rest := [.int 0, .ref o]) Bd (km_K_take hf) hF' kv_K_take (kl_w 24 rfl) rfl hl.1 ⟨by decide, by decide⟩ (Nat.le_of_ble_eq_true rfl) dk_L_take_3 (by decide) (by decide) rfl (fun k hk => absurd hk (Nat.not_lt_zero k)) (fun a H1 locs1 h1 h2 h3 => kl_hcat (n := 1) Bd hl (Or.inr ⟨2, by decide, dk_L_take_10, dk_L_take_11, dk_L_take_12⟩) (by decide) h1 h2 h3)
  | inr v =>
    have hF' : kf_K_take [.ref 0] σ = some (some (.long v), σ') := by rw [kq_K_take, hF]; rfl
    refine kl_hok (av := []) (rest := [.int 0, .ref o]) Bd (km_K_take hf) hF' rfl kv_K_take (kl_w 24 rfl) rfl hl.1 ⟨by decide, by decide⟩ (Nat.le_of_ble_eq_true rfl) dk_L_take_3 (fun H1 locs1 h1 h2 h3 => ?_)
    exact kl_hst (t2 := 13) Bd dk_L_take_6 dk_L_take_7 (by decide) dk_L_take_13 dk_L_take_14 h1 h2 h3
theorem dk_L_open_0 : decode kb_L_open 0 = .ok (.aload_n 3, 1) := by decide +kernel
theorem dk_L_open_1 : decode kb_L_open 1 = .ok (.iconst 0, 1) := by decide +kernel
theorem dk_L_open_2 : decode kb_L_open 2 = .ok (.aload_n 0, 1) := by decide +kernel
theorem dk_L_open_3 : decode kb_L_open 3 = .ok (.iload_n 1, 1) := by decide +kernel
theorem dk_L_open_4 : decode kb_L_open 4 = .ok (.iload_n 2, 1) := by decide +kernel
theorem dk_L_open_5 : decode kb_L_open 5 = .ok (.invokevirtual 27, 3) := by decide +kernel
theorem dk_L_open_8 : decode kb_L_open 8 = .ok (.i2l, 1) := by decide +kernel
theorem dk_L_open_9 : decode kb_L_open 9 = .ok (.lastore, 1) := by decide +kernel
theorem dk_L_open_10 : decode kb_L_open 10 = .ok (.goto 7, 3) := by decide +kernel
theorem dk_L_open_17 : decode kb_L_open 17 = .ok (.iconst 0, 1) := by decide +kernel
theorem dk_L_open_18 : decode kb_L_open 18 = .ok (.ireturn, 1) := by decide +kernel
theorem dk_L_open_13 : decode kb_L_open 13 = .ok (.astore 4, 2) := by decide +kernel
theorem dk_L_open_15 : decode kb_L_open 15 = .ok (.iconst 1, 1) := by decide +kernel
theorem dk_L_open_16 : decode kb_L_open 16 = .ok (.ireturn, 1) := by decide +kernel
set_option maxHeartbeats 4000000 in
theorem kh_open {l : Launch} (hf : l.flags = pinnedFlags ++ [noTraceFlag]) {D : va_G} {cA : Nat → ClassId} {as : Nat → Nat} {cL : ClassId} {o sz : Nat} {xs : Nat → Int64} {σ σ' : kt_S} (l1 : Int32) (l2 : Int32) (r : Nat ⊕ Int32) (hF : kp_K_open l1 l2 σ = some (r, σ')) (ho : ∀ k, k < kt_shC.length → ¬ as k = o) : Met l ky_L_open kl_G (kt_rm 30 1 6) (va_Pc [.ref (as 0), .int l1, .int l2, .ref o] (kl_HP D cA as cL o xs σ sz)) (kl_HQ D cA as cL o (kl_cd (fun _ => 1) r) (kl_xI xs r) σ' sz) 1 6 (kl_HA as o sz) := by
  refine kl_hmet (b := 10) (ts := [(13, 3)]) (Qc := fun z => kl_HQ D cA as cL o (kl_cd (fun _ => 1) r) (kl_xI xs r) σ' z) (by decide) rfl (kl_w 27 rfl) ho ?_
  intro p e s m below meth c Bd
  have hx := Bd.1
  have hb := Bd.2.1
  have hl := lv_entry ([.ref (as 0), .int l1, .int l2, .ref o]) (n := 5) (Nat.le_of_ble_eq_true rfl)
  rw [lg_entry_eq]
  generalize (lg_sl ([.ref (as 0), .int l1, .int l2, .ref o]) ++ List.replicate (5 - (lg_sl ([.ref (as 0), .int l1, .int l2, .ref o])).length) Slot.unset).toArray = ls at hl ⊢
  have hl : lv_has ls 5 [(0, .ref (as 0)), (1, .int l1), (2, .int l2), (3, .ref o)] := hl
  refine lv_aload_n hx hb dk_L_open_0 rfl (lv_at hl 3 rfl) ?_
  refine lv_iconst (v := 0) hx hb dk_L_open_1 (by decide) ?_
  refine lv_aload_n hx hb dk_L_open_2 rfl (lv_at hl 0 rfl) ?_
  refine lv_iload_n hx hb dk_L_open_3 rfl (lv_at hl 1 rfl) ?_
  refine lv_iload_n hx hb dk_L_open_4 rfl (lv_at hl 2 rfl) ?_
  cases r with
  | inl n =>
    have hF' : kf_K_open [.ref 0, .int l1, .int l2] σ = some (some (.ref (1000 + n)), σ') := by rw [kq_K_open, hF]; rfl
    obtain rfl := kX_open _ _ _ _ _ hF
    exact kl_hthr (k0 := 0) (tgt := 13) (av := [.int l1, .int l2]) (rest := [.int 0, .ref o]) Bd (km_K_open hf) hF' kv_K_open (kl_w 29 rfl) rfl hl.1 ⟨by decide, by decide⟩ (Nat.le_of_ble_eq_true rfl) dk_L_open_5 (by decide) (by decide) rfl (fun k hk => absurd hk (Nat.not_lt_zero k)) (fun a H1 locs1 h1 h2 h3 => kl_hcat (n := 1) Bd hl (Or.inl ⟨4, by decide, dk_L_open_13, dk_L_open_15, dk_L_open_16⟩) (by decide) h1 h2 h3)
  | inr v =>
    have hF' : kf_K_open [.ref 0, .int l1, .int l2] σ = some (some (.int v), σ') := by rw [kq_K_open, hF]; rfl
    refine kl_hok (av := [.int l1, .int l2]) (rest := [.int 0, .ref o]) Bd (km_K_open hf) hF' rfl kv_K_open (kl_w 29 rfl) rfl hl.1 ⟨by decide, by decide⟩ (Nat.le_of_ble_eq_true rfl) dk_L_open_5 (fun H1 locs1 h1 h2 h3 => ?_)
    refine lv_i2l hx hb dk_L_open_8 rfl ?_
    exact kl_hst (t2 := 17) Bd dk_L_open_9 dk_L_open_10 (by decide) dk_L_open_17 dk_L_open_18 h1 h2 h3
theorem dk_L_ceremony_0 : decode kb_L_ceremony 0 = .ok (.aload 5, 2) := by decide +kernel
theorem dk_L_ceremony_2 : decode kb_L_ceremony 2 = .ok (.iconst 0, 1) := by decide +kernel
theorem dk_L_ceremony_3 : decode kb_L_ceremony 3 = .ok (.aload_n 0, 1) := by decide +kernel
theorem dk_L_ceremony_4 : decode kb_L_ceremony 4 = .ok (.iload_n 1, 1) := by decide +kernel
theorem dk_L_ceremony_5 : decode kb_L_ceremony 5 = .ok (.iload_n 2, 1) := by decide +kernel
theorem dk_L_ceremony_6 : decode kb_L_ceremony 6 = .ok (.iload_n 3, 1) := by decide +kernel
theorem dk_L_ceremony_7 : decode kb_L_ceremony 7 = .ok (.iload 4, 2) := by decide +kernel
theorem dk_L_ceremony_9 : decode kb_L_ceremony 9 = .ok (.invokevirtual 33, 3) := by decide +kernel
theorem dk_L_ceremony_12 : decode kb_L_ceremony 12 = .ok (.i2l, 1) := by decide +kernel
theorem dk_L_ceremony_13 : decode kb_L_ceremony 13 = .ok (.lastore, 1) := by decide +kernel
theorem dk_L_ceremony_14 : decode kb_L_ceremony 14 = .ok (.goto 11, 3) := by decide +kernel
theorem dk_L_ceremony_25 : decode kb_L_ceremony 25 = .ok (.iconst 0, 1) := by decide +kernel
theorem dk_L_ceremony_26 : decode kb_L_ceremony 26 = .ok (.ireturn, 1) := by decide +kernel
theorem dk_L_ceremony_17 : decode kb_L_ceremony 17 = .ok (.astore 6, 2) := by decide +kernel
theorem dk_L_ceremony_19 : decode kb_L_ceremony 19 = .ok (.iconst 1, 1) := by decide +kernel
theorem dk_L_ceremony_20 : decode kb_L_ceremony 20 = .ok (.ireturn, 1) := by decide +kernel
theorem dk_L_ceremony_21 : decode kb_L_ceremony 21 = .ok (.astore 6, 2) := by decide +kernel
theorem dk_L_ceremony_23 : decode kb_L_ceremony 23 = .ok (.iconst 2, 1) := by decide +kernel
theorem dk_L_ceremony_24 : decode kb_L_ceremony 24 = .ok (.ireturn, 1) := by decide +kernel
set_option maxHeartbeats 4000000 in
theorem kh_ceremony {l : Launch} (hf : l.flags = pinnedFlags ++ [noTraceFlag]) {D : va_G} {cA : Nat → ClassId} {as : Nat → Nat} {cL : ClassId} {o sz : Nat} {xs : Nat → Int64} {σ σ' : kt_S} (l1 : Int32) (l2 : Int32) (l3 : Int32) (l4 : Int32) (r : Nat ⊕ Int32) (hF : kp_K_ceremony l1 l2 l3 l4 σ = some (r, σ')) (ho : ∀ k, k < kt_shC.length → ¬ as k = o) : Met l ky_L_ceremony kl_G (kt_rm 30 1 6) (va_Pc [.ref (as 0), .int l1, .int l2, .int l3, .int l4, .ref o] (kl_HP D cA as cL o xs σ sz)) (kl_HQ D cA as cL o (kl_cd kT_cer r) (kl_xI xs r) σ' sz) 1 6 (kl_HA as o sz) := by
  refine kl_hmet (b := 14) (ts := [(17, 3), (21, 0)]) (Qc := fun z => kl_HQ D cA as cL o (kl_cd kT_cer r) (kl_xI xs r) σ' z) (by decide) rfl (kl_w 32 rfl) ho ?_
  intro p e s m below meth c Bd
  have hx := Bd.1
  have hb := Bd.2.1
  have hl := lv_entry ([.ref (as 0), .int l1, .int l2, .int l3, .int l4, .ref o]) (n := 7) (Nat.le_of_ble_eq_true rfl)
  rw [lg_entry_eq]
  generalize (lg_sl ([.ref (as 0), .int l1, .int l2, .int l3, .int l4, .ref o]) ++ List.replicate (7 - (lg_sl ([.ref (as 0), .int l1, .int l2, .int l3, .int l4, .ref o])).length) Slot.unset).toArray = ls at hl ⊢
  have hl : lv_has ls 7 [(0, .ref (as 0)), (1, .int l1), (2, .int l2), (3, .int l3), (4, .int l4), (5, .ref o)] := hl
  refine lv_aload hx hb dk_L_ceremony_0 (lv_at hl 5 rfl) ?_
  refine lv_iconst (v := 0) hx hb dk_L_ceremony_2 (by decide) ?_
  refine lv_aload_n hx hb dk_L_ceremony_3 rfl (lv_at hl 0 rfl) ?_
  refine lv_iload_n hx hb dk_L_ceremony_4 rfl (lv_at hl 1 rfl) ?_
  refine lv_iload_n hx hb dk_L_ceremony_5 rfl (lv_at hl 2 rfl) ?_
  refine lv_iload_n hx hb dk_L_ceremony_6 rfl (lv_at hl 3 rfl) ?_
  refine lv_iload hx hb dk_L_ceremony_7 (lv_at hl 4 rfl) ?_
  cases r with
  | inl n =>
    have hF' : kf_K_ceremony [.ref 0, .int l1, .int l2, .int l3, .int l4] σ = some (some (.ref (1000 + n)), σ') := by rw [kq_K_ceremony, hF]; rfl
    rcases kX_ceremony _ _ _ _ _ _ _ hF with rfl | rfl
    · exact kl_hthr (k0 := 0) (tgt := 17) (av := [.int l1, .int l2, .int l3, .int l4]) (rest := [.int 0, .ref o]) Bd (km_K_ceremony hf) hF' kv_K_ceremony (kl_w 33 rfl) rfl hl.1 ⟨by decide, by decide⟩ (Nat.le_of_ble_eq_true rfl) dk_L_ceremony_9 (by decide) (by decide) rfl (fun k hk => absurd hk (Nat.not_lt_zero k)) (fun a H1 locs1 h1 h2 h3 => kl_hcat (n := 1) Bd hl (Or.inl ⟨6, by decide, dk_L_ceremony_17, dk_L_ceremony_19, dk_L_ceremony_20⟩) (by decide) h1 h2 h3)
    · exact kl_hthr (k0 := 1) (tgt := 21) (av := [.int l1, .int l2, .int l3, .int l4]) (rest := [.int 0, .ref o]) Bd (km_K_ceremony hf) hF' kv_K_ceremony (kl_w 33 rfl) rfl hl.1 ⟨by decide, by decide⟩ (Nat.le_of_ble_eq_true rfl) dk_L_ceremony_9 (by decide) (by decide) rfl (fun k hk => by (obtain rfl : k = 0 := by omega); exact (by decide)) (fun a H1 locs1 h1 h2 h3 => kl_hcat (n := 2) Bd hl (Or.inl ⟨6, by decide, dk_L_ceremony_21, dk_L_ceremony_23, dk_L_ceremony_24⟩) (by decide) h1 h2 h3)
  | inr v =>
    have hF' : kf_K_ceremony [.ref 0, .int l1, .int l2, .int l3, .int l4] σ = some (some (.int v), σ') := by rw [kq_K_ceremony, hF]; rfl
    refine kl_hok (av := [.int l1, .int l2, .int l3, .int l4]) (rest := [.int 0, .ref o]) Bd (km_K_ceremony hf) hF' rfl kv_K_ceremony (kl_w 33 rfl) rfl hl.1 ⟨by decide, by decide⟩ (Nat.le_of_ble_eq_true rfl) dk_L_ceremony_9 (fun H1 locs1 h1 h2 h3 => ?_)
    refine lv_i2l hx hb dk_L_ceremony_12 rfl ?_
    exact kl_hst (t2 := 25) Bd dk_L_ceremony_13 dk_L_ceremony_14 (by decide) dk_L_ceremony_25 dk_L_ceremony_26 h1 h2 h3
theorem dk_L_offer_0 : decode kb_L_offer 0 = .ok (.aload 5, 2) := by decide +kernel
theorem dk_L_offer_2 : decode kb_L_offer 2 = .ok (.iconst 0, 1) := by decide +kernel
theorem dk_L_offer_3 : decode kb_L_offer 3 = .ok (.aload_n 0, 1) := by decide +kernel
theorem dk_L_offer_4 : decode kb_L_offer 4 = .ok (.iload_n 1, 1) := by decide +kernel
theorem dk_L_offer_5 : decode kb_L_offer 5 = .ok (.iload_n 2, 1) := by decide +kernel
theorem dk_L_offer_6 : decode kb_L_offer 6 = .ok (.iload_n 3, 1) := by decide +kernel
theorem dk_L_offer_7 : decode kb_L_offer 7 = .ok (.iload 4, 2) := by decide +kernel
theorem dk_L_offer_9 : decode kb_L_offer 9 = .ok (.invokevirtual 37, 3) := by decide +kernel
theorem dk_L_offer_12 : decode kb_L_offer 12 = .ok (.i2l, 1) := by decide +kernel
theorem dk_L_offer_13 : decode kb_L_offer 13 = .ok (.lastore, 1) := by decide +kernel
theorem dk_L_offer_14 : decode kb_L_offer 14 = .ok (.goto 15, 3) := by decide +kernel
theorem dk_L_offer_29 : decode kb_L_offer 29 = .ok (.iconst 0, 1) := by decide +kernel
theorem dk_L_offer_30 : decode kb_L_offer 30 = .ok (.ireturn, 1) := by decide +kernel
theorem dk_L_offer_17 : decode kb_L_offer 17 = .ok (.astore 6, 2) := by decide +kernel
theorem dk_L_offer_19 : decode kb_L_offer 19 = .ok (.iconst 1, 1) := by decide +kernel
theorem dk_L_offer_20 : decode kb_L_offer 20 = .ok (.ireturn, 1) := by decide +kernel
theorem dk_L_offer_21 : decode kb_L_offer 21 = .ok (.astore 6, 2) := by decide +kernel
theorem dk_L_offer_23 : decode kb_L_offer 23 = .ok (.iconst 2, 1) := by decide +kernel
theorem dk_L_offer_24 : decode kb_L_offer 24 = .ok (.ireturn, 1) := by decide +kernel
theorem dk_L_offer_25 : decode kb_L_offer 25 = .ok (.astore 6, 2) := by decide +kernel
theorem dk_L_offer_27 : decode kb_L_offer 27 = .ok (.iconst 3, 1) := by decide +kernel
theorem dk_L_offer_28 : decode kb_L_offer 28 = .ok (.ireturn, 1) := by decide +kernel
set_option maxHeartbeats 4000000 in
theorem kh_offer {l : Launch} (hf : l.flags = pinnedFlags ++ [noTraceFlag]) {D : va_G} {cA : Nat → ClassId} {as : Nat → Nat} {cL : ClassId} {o sz : Nat} {xs : Nat → Int64} {σ σ' : kt_S} (l1 : Int32) (l2 : Int32) (l3 : Int32) (l4 : Int32) (r : Nat ⊕ Int32) (hF : kp_K_offer l1 l2 l3 l4 σ = some (r, σ')) (ho : ∀ k, k < kt_shC.length → ¬ as k = o) : Met l ky_L_offer kl_G (kt_rm 30 1 6) (va_Pc [.ref (as 0), .int l1, .int l2, .int l3, .int l4, .ref o] (kl_HP D cA as cL o xs σ sz)) (kl_HQ D cA as cL o (kl_cd kT_offer r) (kl_xI xs r) σ' sz) 1 6 (kl_HA as o sz) := by
  refine kl_hmet (b := 14) (ts := [(17, 3), (21, 2), (25, 0)]) (Qc := fun z => kl_HQ D cA as cL o (kl_cd kT_offer r) (kl_xI xs r) σ' z) (by decide) rfl (kl_w 36 rfl) ho ?_
  intro p e s m below meth c Bd
  have hx := Bd.1
  have hb := Bd.2.1
  have hl := lv_entry ([.ref (as 0), .int l1, .int l2, .int l3, .int l4, .ref o]) (n := 7) (Nat.le_of_ble_eq_true rfl)
  rw [lg_entry_eq]
  generalize (lg_sl ([.ref (as 0), .int l1, .int l2, .int l3, .int l4, .ref o]) ++ List.replicate (7 - (lg_sl ([.ref (as 0), .int l1, .int l2, .int l3, .int l4, .ref o])).length) Slot.unset).toArray = ls at hl ⊢
  have hl : lv_has ls 7 [(0, .ref (as 0)), (1, .int l1), (2, .int l2), (3, .int l3), (4, .int l4), (5, .ref o)] := hl
  refine lv_aload hx hb dk_L_offer_0 (lv_at hl 5 rfl) ?_
  refine lv_iconst (v := 0) hx hb dk_L_offer_2 (by decide) ?_
  refine lv_aload_n hx hb dk_L_offer_3 rfl (lv_at hl 0 rfl) ?_
  refine lv_iload_n hx hb dk_L_offer_4 rfl (lv_at hl 1 rfl) ?_
  refine lv_iload_n hx hb dk_L_offer_5 rfl (lv_at hl 2 rfl) ?_
  refine lv_iload_n hx hb dk_L_offer_6 rfl (lv_at hl 3 rfl) ?_
  refine lv_iload hx hb dk_L_offer_7 (lv_at hl 4 rfl) ?_
  cases r with
  | inl n =>
    have hF' : kf_K_offer [.ref 0, .int l1, .int l2, .int l3, .int l4] σ = some (some (.ref (1000 + n)), σ') := by rw [kq_K_offer, hF]; rfl
    rcases kX_offer _ _ _ _ _ _ _ hF with rfl | rfl | rfl
    · exact kl_hthr (k0 := 0) (tgt := 17) (av := [.int l1, .int l2, .int l3, .int l4]) (rest := [.int 0, .ref o]) Bd (km_K_offer hf) hF' kv_K_offer (kl_w 37 rfl) rfl hl.1 ⟨by decide, by decide⟩ (Nat.le_of_ble_eq_true rfl) dk_L_offer_9 (by decide) (by decide) rfl (fun k hk => absurd hk (Nat.not_lt_zero k)) (fun a H1 locs1 h1 h2 h3 => kl_hcat (n := 1) Bd hl (Or.inl ⟨6, by decide, dk_L_offer_17, dk_L_offer_19, dk_L_offer_20⟩) (by decide) h1 h2 h3)
    · exact kl_hthr (k0 := 1) (tgt := 21) (av := [.int l1, .int l2, .int l3, .int l4]) (rest := [.int 0, .ref o]) Bd (km_K_offer hf) hF' kv_K_offer (kl_w 37 rfl) rfl hl.1 ⟨by decide, by decide⟩ (Nat.le_of_ble_eq_true rfl) dk_L_offer_9 (by decide) (by decide) rfl (fun k hk => by (obtain rfl : k = 0 := by omega); exact (by decide)) (fun a H1 locs1 h1 h2 h3 => kl_hcat (n := 2) Bd hl (Or.inl ⟨6, by decide, dk_L_offer_21, dk_L_offer_23, dk_L_offer_24⟩) (by decide) h1 h2 h3)
    · exact kl_hthr (k0 := 2) (tgt := 25) (av := [.int l1, .int l2, .int l3, .int l4]) (rest := [.int 0, .ref o]) Bd (km_K_offer hf) hF' kv_K_offer (kl_w 37 rfl) rfl hl.1 ⟨by decide, by decide⟩ (Nat.le_of_ble_eq_true rfl) dk_L_offer_9 (by decide) (by decide) rfl (fun k hk => by rcases (by omega : k = 0 ∨ k = 1) with rfl | rfl <;> exact (by decide)) (fun a H1 locs1 h1 h2 h3 => kl_hcat (n := 3) Bd hl (Or.inl ⟨6, by decide, dk_L_offer_25, dk_L_offer_27, dk_L_offer_28⟩) (by decide) h1 h2 h3)
  | inr v =>
    have hF' : kf_K_offer [.ref 0, .int l1, .int l2, .int l3, .int l4] σ = some (some (.int v), σ') := by rw [kq_K_offer, hF]; rfl
    refine kl_hok (av := [.int l1, .int l2, .int l3, .int l4]) (rest := [.int 0, .ref o]) Bd (km_K_offer hf) hF' rfl kv_K_offer (kl_w 37 rfl) rfl hl.1 ⟨by decide, by decide⟩ (Nat.le_of_ble_eq_true rfl) dk_L_offer_9 (fun H1 locs1 h1 h2 h3 => ?_)
    refine lv_i2l hx hb dk_L_offer_12 rfl ?_
    exact kl_hst (t2 := 29) Bd dk_L_offer_13 dk_L_offer_14 (by decide) dk_L_offer_29 dk_L_offer_30 h1 h2 h3
theorem dk_L_signature_0 : decode kb_L_signature 0 = .ok (.aload_n 3, 1) := by decide +kernel
theorem dk_L_signature_1 : decode kb_L_signature 1 = .ok (.iconst 0, 1) := by decide +kernel
theorem dk_L_signature_2 : decode kb_L_signature 2 = .ok (.aload_n 0, 1) := by decide +kernel
theorem dk_L_signature_3 : decode kb_L_signature 3 = .ok (.iload_n 1, 1) := by decide +kernel
theorem dk_L_signature_4 : decode kb_L_signature 4 = .ok (.iload_n 2, 1) := by decide +kernel
theorem dk_L_signature_5 : decode kb_L_signature 5 = .ok (.invokevirtual 41, 3) := by decide +kernel
theorem dk_L_signature_8 : decode kb_L_signature 8 = .ok (.i2l, 1) := by decide +kernel
theorem dk_L_signature_9 : decode kb_L_signature 9 = .ok (.lastore, 1) := by decide +kernel
theorem dk_L_signature_10 : decode kb_L_signature 10 = .ok (.goto 7, 3) := by decide +kernel
theorem dk_L_signature_17 : decode kb_L_signature 17 = .ok (.iconst 0, 1) := by decide +kernel
theorem dk_L_signature_18 : decode kb_L_signature 18 = .ok (.ireturn, 1) := by decide +kernel
theorem dk_L_signature_13 : decode kb_L_signature 13 = .ok (.astore 4, 2) := by decide +kernel
theorem dk_L_signature_15 : decode kb_L_signature 15 = .ok (.iconst 1, 1) := by decide +kernel
theorem dk_L_signature_16 : decode kb_L_signature 16 = .ok (.ireturn, 1) := by decide +kernel
set_option maxHeartbeats 4000000 in
theorem kh_signature {l : Launch} (hf : l.flags = pinnedFlags ++ [noTraceFlag]) {D : va_G} {cA : Nat → ClassId} {as : Nat → Nat} {cL : ClassId} {o sz : Nat} {xs : Nat → Int64} {σ σ' : kt_S} (l1 : Int32) (l2 : Int32) (r : Nat ⊕ Int32) (hF : kp_K_signature l1 l2 σ = some (r, σ')) (ho : ∀ k, k < kt_shC.length → ¬ as k = o) : Met l ky_L_signature kl_G (kt_rm 30 1 6) (va_Pc [.ref (as 0), .int l1, .int l2, .ref o] (kl_HP D cA as cL o xs σ sz)) (kl_HQ D cA as cL o (kl_cd (fun _ => 1) r) (kl_xI xs r) σ' sz) 1 6 (kl_HA as o sz) := by
  refine kl_hmet (b := 10) (ts := [(13, 2)]) (Qc := fun z => kl_HQ D cA as cL o (kl_cd (fun _ => 1) r) (kl_xI xs r) σ' z) (by decide) rfl (kl_w 40 rfl) ho ?_
  intro p e s m below meth c Bd
  have hx := Bd.1
  have hb := Bd.2.1
  have hl := lv_entry ([.ref (as 0), .int l1, .int l2, .ref o]) (n := 5) (Nat.le_of_ble_eq_true rfl)
  rw [lg_entry_eq]
  generalize (lg_sl ([.ref (as 0), .int l1, .int l2, .ref o]) ++ List.replicate (5 - (lg_sl ([.ref (as 0), .int l1, .int l2, .ref o])).length) Slot.unset).toArray = ls at hl ⊢
  have hl : lv_has ls 5 [(0, .ref (as 0)), (1, .int l1), (2, .int l2), (3, .ref o)] := hl
  refine lv_aload_n hx hb dk_L_signature_0 rfl (lv_at hl 3 rfl) ?_
  refine lv_iconst (v := 0) hx hb dk_L_signature_1 (by decide) ?_
  refine lv_aload_n hx hb dk_L_signature_2 rfl (lv_at hl 0 rfl) ?_
  refine lv_iload_n hx hb dk_L_signature_3 rfl (lv_at hl 1 rfl) ?_
  refine lv_iload_n hx hb dk_L_signature_4 rfl (lv_at hl 2 rfl) ?_
  cases r with
  | inl n =>
    have hF' : kf_K_signature [.ref 0, .int l1, .int l2] σ = some (some (.ref (1000 + n)), σ') := by rw [kq_K_signature, hF]; rfl
    obtain rfl := kX_signature _ _ _ _ _ hF
    exact kl_hthr (k0 := 0) (tgt := 13) (av := [.int l1, .int l2]) (rest := [.int 0, .ref o]) Bd (km_K_signature hf) hF' kv_K_signature (kl_w 41 rfl) rfl hl.1 ⟨by decide, by decide⟩ (Nat.le_of_ble_eq_true rfl) dk_L_signature_5 (by decide) (by decide) rfl (fun k hk => absurd hk (Nat.not_lt_zero k)) (fun a H1 locs1 h1 h2 h3 => kl_hcat (n := 1) Bd hl (Or.inl ⟨4, by decide, dk_L_signature_13, dk_L_signature_15, dk_L_signature_16⟩) (by decide) h1 h2 h3)
  | inr v =>
    have hF' : kf_K_signature [.ref 0, .int l1, .int l2] σ = some (some (.int v), σ') := by rw [kq_K_signature, hF]; rfl
    refine kl_hok (av := [.int l1, .int l2]) (rest := [.int 0, .ref o]) Bd (km_K_signature hf) hF' rfl kv_K_signature (kl_w 41 rfl) rfl hl.1 ⟨by decide, by decide⟩ (Nat.le_of_ble_eq_true rfl) dk_L_signature_5 (fun H1 locs1 h1 h2 h3 => ?_)
    refine lv_i2l hx hb dk_L_signature_8 rfl ?_
    exact kl_hst (t2 := 17) Bd dk_L_signature_9 dk_L_signature_10 (by decide) dk_L_signature_17 dk_L_signature_18 h1 h2 h3
