section
variable {l : Launch}
noncomputable def kd_M_thrown_0 : kt_D := ki_aload 0 <| ki_get kt_shM 7 0 <| ki_iret
theorem kz_M_thrown_0 : kt_Snd l kt_shM kb_M_thrown 1 RX7 (some .int) 0 0 0 true true 0 kd_M_thrown_0 :=
  sd_aload_n (pc := 0) (kt_tab_get kx_M_thrown 0 rfl) rfl <|
  sd_get (pc := 1) (k := 0) (ci := 7) kt_hc7 kt_hin7 (by decide) (kt_tab_get kx_M_thrown 1 rfl) (kg_M_thrown_in _ (List.mem_of_getElem? (i := 4) rfl)) <|
  sd_iret (pc := 4) rfl (by decide) (kt_tab_get kx_M_thrown 2 rfl)
noncomputable def kf_M_thrown : kt_F := kt_run 1 kd_M_thrown_0
theorem km_M_thrown : kt_M l kt_shM ky_M_thrown kb_M_thrown 1 (some .int) 0 true kf_M_thrown := kt_method (by decide) rfl kz_M_thrown_0
noncomputable def kd_M_erased_41 : kt_D := ki_iload 2 <| ki_zret
theorem kz_M_erased_41 : kt_Snd l kt_shM kb_M_erased 4 RX7 (some .boolean) 0 0 0 true true 41 kd_M_erased_41 :=
  sd_iload_n (pc := 41) (kt_tab_get kx_M_erased 25 rfl) rfl <|
  sd_zret (pc := 42) rfl (by decide) (kt_tab_get kx_M_erased 26 rfl)
noncomputable def kd_M_erased_34 (kh_4 : kt_D) : kt_D := ki_istore 2 <| ki_iinc 3 1 <| kh_4
theorem kz_M_erased_34 {kh_4 : kt_D} (zh_4 : kt_Snd l kt_shM kb_M_erased 4 RX7 (some .boolean) 0 0 0 true true 4 kh_4) : kt_Snd l kt_shM kb_M_erased 4 RX7 (some .boolean) 0 0 0 true true 34 (kd_M_erased_34 kh_4) :=
  sd_istore_n (pc := 34) (kt_tab_get kx_M_erased 22 rfl) rfl (by decide) <|
  sd_iinc (pc := 35) (kt_tab_get kx_M_erased 23 rfl) kc_i_1 (by decide) <|
  sd_goto (pc := 38) (tgt := 4) (kt_tab_get kx_M_erased 24 rfl) rfl zh_4
noncomputable def kd_M_erased_33 (kh_4 : kt_D) : kt_D := ki_push (.int 0) <| (kd_M_erased_34 kh_4)
theorem kz_M_erased_33 {kh_4 : kt_D} (zh_4 : kt_Snd l kt_shM kb_M_erased 4 RX7 (some .boolean) 0 0 0 true true 4 kh_4) : kt_Snd l kt_shM kb_M_erased 4 RX7 (some .boolean) 0 0 0 true true 33 (kd_M_erased_33 kh_4) :=
  sd_iconst (pc := 33) (kt_tab_get kx_M_erased 21 rfl) kc_i_0 <|
  (kz_M_erased_34 zh_4)
noncomputable def kd_M_erased_29 (kh_4 : kt_D) : kt_D := ki_push (.int 1) <| (kd_M_erased_34 kh_4)
theorem kz_M_erased_29 {kh_4 : kt_D} (zh_4 : kt_Snd l kt_shM kb_M_erased 4 RX7 (some .boolean) 0 0 0 true true 4 kh_4) : kt_Snd l kt_shM kb_M_erased 4 RX7 (some .boolean) 0 0 0 true true 29 (kd_M_erased_29 kh_4) :=
  sd_iconst (pc := 29) (kt_tab_get kx_M_erased 19 rfl) kc_i_1 <|
  sd_goto (pc := 30) (tgt := 34) (kt_tab_get kx_M_erased 20 rfl) rfl (kz_M_erased_34 zh_4)
noncomputable def kd_M_erased_14 (kh_4 : kt_D) : kt_D := ki_aload 0 <| ki_get kt_shM 7 1 <| ki_push (.int 6) <| ki_iload 1 <| ki_imul <| ki_iload 3 <| ki_iadd <| ki_iald kt_shM <| ki_push (.int (-1)) <| ki_icmp_ne (kd_M_erased_33 kh_4) (kd_M_erased_29 kh_4)
theorem kz_M_erased_14 {kh_4 : kt_D} (zh_4 : kt_Snd l kt_shM kb_M_erased 4 RX7 (some .boolean) 0 0 0 true true 4 kh_4) : kt_Snd l kt_shM kb_M_erased 4 RX7 (some .boolean) 0 0 0 true true 14 (kd_M_erased_14 kh_4) :=
  sd_aload_n (pc := 14) (kt_tab_get kx_M_erased 9 rfl) rfl <|
  sd_get (pc := 15) (k := 1) (ci := 7) kt_hc7 kt_hin7 (by decide) (kt_tab_get kx_M_erased 10 rfl) (kg_M_erased_in _ (List.mem_of_getElem? (i := 4) rfl)) <|
  sd_bipush (pc := 18) (kt_tab_get kx_M_erased 11 rfl) kc_b_6 <|
  sd_iload_n (pc := 20) (kt_tab_get kx_M_erased 12 rfl) rfl <|
  sd_imul (pc := 21) (kt_tab_get kx_M_erased 13 rfl) <|
  sd_iload_n (pc := 22) (kt_tab_get kx_M_erased 14 rfl) rfl <|
  sd_iadd (pc := 23) (kt_tab_get kx_M_erased 15 rfl) <|
  sd_iald (pc := 24) (kt_tab_get kx_M_erased 16 rfl) <|
  sd_iconst (pc := 25) (kt_tab_get kx_M_erased 17 rfl) kc_i_m1 <|
  sd_icmp_ne (pc := 26) (tgt := 33) (kt_tab_get kx_M_erased 18 rfl) rfl (kz_M_erased_33 zh_4) (kz_M_erased_29 zh_4)
noncomputable def kd_M_erased_10 (kh_4 : kt_D) : kt_D := ki_iload 2 <| ki_if_eq (ki_drop 2 (kd_M_erased_33 kh_4)) (ki_drop 2 (kd_M_erased_14 kh_4))
theorem kz_M_erased_10 {kh_4 : kt_D} (zh_4 : kt_Snd l kt_shM kb_M_erased 4 RX7 (some .boolean) 0 0 0 true true 4 kh_4) : kt_Snd l kt_shM kb_M_erased 4 RX7 (some .boolean) 0 0 0 true true 10 (kd_M_erased_10 kh_4) :=
  sd_iload_n (pc := 10) (kt_tab_get kx_M_erased 7 rfl) rfl <|
  sd_if_eq (pc := 11) (tgt := 33) (kt_tab_get kx_M_erased 8 rfl) rfl (sd_drop (k := 2) (kz_M_erased_33 zh_4)) (sd_drop (k := 2) (kz_M_erased_14 zh_4))
noncomputable def kd_M_erased_4b (kh_4 : kt_D) : kt_D := ki_iload 3 <| ki_push (.int 6) <| ki_icmp_ge (ki_drop 3 (ki_drop 1 (ki_drop 0 kd_M_erased_41))) (kd_M_erased_10 kh_4)
theorem kz_M_erased_4b {kh_4 : kt_D} (zh_4 : kt_Snd l kt_shM kb_M_erased 4 RX7 (some .boolean) 0 0 0 true true 4 kh_4) : kt_Snd l kt_shM kb_M_erased 4 RX7 (some .boolean) 0 0 0 true true 4 (kd_M_erased_4b kh_4) :=
  sd_iload_n (pc := 4) (kt_tab_get kx_M_erased 4 rfl) rfl <|
  sd_bipush (pc := 5) (kt_tab_get kx_M_erased 5 rfl) kc_b_6 <|
  sd_icmp_ge (pc := 7) (tgt := 41) (kt_tab_get kx_M_erased 6 rfl) rfl (sd_drop (k := 3) (sd_drop (k := 1) (sd_drop (k := 0) kz_M_erased_41))) (kz_M_erased_10 zh_4)
noncomputable def kd_M_erased_4 (n : Nat) : kt_D := Nat.rec (fun _ _ _ => none) (fun _ ih => kd_M_erased_4b ih) n
theorem kz_M_erased_4 (n : Nat) : kt_Snd l kt_shM kb_M_erased 4 RX7 (some .boolean) 0 0 0 true true 4 (kd_M_erased_4 n) := by
  induction n with
  | zero => exact sd_fail
  | succ n ih => exact kz_M_erased_4b ih
noncomputable def kd_M_erased_0 : kt_D := ki_push (.int 1) <| ki_istore 2 <| ki_push (.int 0) <| ki_istore 3 <| (kd_M_erased_4 100)
theorem kz_M_erased_0 : kt_Snd l kt_shM kb_M_erased 4 RX7 (some .boolean) 0 0 0 true true 0 kd_M_erased_0 :=
  sd_iconst (pc := 0) (kt_tab_get kx_M_erased 0 rfl) kc_i_1 <|
  sd_istore_n (pc := 1) (kt_tab_get kx_M_erased 1 rfl) rfl (by decide) <|
  sd_iconst (pc := 2) (kt_tab_get kx_M_erased 2 rfl) kc_i_0 <|
  sd_istore_n (pc := 3) (kt_tab_get kx_M_erased 3 rfl) rfl (by decide) <|
  (kz_M_erased_4 100)
noncomputable def kf_M_erased : kt_F := kt_run 4 kd_M_erased_0
theorem km_M_erased : kt_M l kt_shM ky_M_erased kb_M_erased 4 (some .boolean) 0 true kf_M_erased := kt_method (by decide) rfl kz_M_erased_0
noncomputable def kd_M_erasedPages_32 : kt_D := ki_iload 1 <| ki_iret
theorem kz_M_erasedPages_32 : kt_Snd l kt_shM kb_M_erasedPages 3 RX7 (some .int) 1 0 0 true true 32 kd_M_erasedPages_32 :=
  sd_iload_n (pc := 32) (kt_tab_get kx_M_erasedPages 19 rfl) rfl <|
  sd_iret (pc := 33) rfl (by decide) (kt_tab_get kx_M_erasedPages 20 rfl)
noncomputable def kd_M_erasedPages_25 (kh_4 : kt_D) : kt_D := ki_istore 1 <| ki_iinc 2 1 <| kh_4
theorem kz_M_erasedPages_25 {kh_4 : kt_D} (zh_4 : kt_Snd l kt_shM kb_M_erasedPages 3 RX7 (some .int) 1 0 0 true true 4 kh_4) : kt_Snd l kt_shM kb_M_erasedPages 3 RX7 (some .int) 1 0 0 true true 25 (kd_M_erasedPages_25 kh_4) :=
  sd_istore_n (pc := 25) (kt_tab_get kx_M_erasedPages 16 rfl) rfl (by decide) <|
  sd_iinc (pc := 26) (kt_tab_get kx_M_erasedPages 17 rfl) kc_i_1 (by decide) <|
  sd_goto (pc := 29) (tgt := 4) (kt_tab_get kx_M_erasedPages 18 rfl) rfl zh_4
noncomputable def kd_M_erasedPages_24 (kh_4 : kt_D) : kt_D := ki_iload 1 <| (ki_drop 1 (kd_M_erasedPages_25 kh_4))
theorem kz_M_erasedPages_24 {kh_4 : kt_D} (zh_4 : kt_Snd l kt_shM kb_M_erasedPages 3 RX7 (some .int) 1 0 0 true true 4 kh_4) : kt_Snd l kt_shM kb_M_erasedPages 3 RX7 (some .int) 1 0 0 true true 24 (kd_M_erasedPages_24 kh_4) :=
  sd_iload_n (pc := 24) (kt_tab_get kx_M_erasedPages 15 rfl) rfl <|
  (sd_drop (k := 1) (kz_M_erasedPages_25 zh_4))
noncomputable def kd_M_erasedPages_18 (kh_4 : kt_D) : kt_D := ki_iload 1 <| ki_push (.int 1) <| ki_iadd <| (ki_drop 1 (kd_M_erasedPages_25 kh_4))
theorem kz_M_erasedPages_18 {kh_4 : kt_D} (zh_4 : kt_Snd l kt_shM kb_M_erasedPages 3 RX7 (some .int) 1 0 0 true true 4 kh_4) : kt_Snd l kt_shM kb_M_erasedPages 3 RX7 (some .int) 1 0 0 true true 18 (kd_M_erasedPages_18 kh_4) :=
  sd_iload_n (pc := 18) (kt_tab_get kx_M_erasedPages 11 rfl) rfl <|
  sd_iconst (pc := 19) (kt_tab_get kx_M_erasedPages 12 rfl) kc_i_1 <|
  sd_iadd (pc := 20) (kt_tab_get kx_M_erasedPages 13 rfl) <|
  sd_goto (pc := 21) (tgt := 25) (kt_tab_get kx_M_erasedPages 14 rfl) rfl (sd_drop (k := 1) (kz_M_erasedPages_25 zh_4))
noncomputable def kd_M_erasedPages_10 (kh_4 : kt_D) : kt_D := ki_aload 0 <| ki_iload 2 <| ki_callV kt_shM 7 1 kf_M_erased <| ki_if_eq (kd_M_erasedPages_24 kh_4) (kd_M_erasedPages_18 kh_4)
theorem kz_M_erasedPages_10 {kh_4 : kt_D} (zh_4 : kt_Snd l kt_shM kb_M_erasedPages 3 RX7 (some .int) 1 0 0 true true 4 kh_4) : kt_Snd l kt_shM kb_M_erasedPages 3 RX7 (some .int) 1 0 0 true true 10 (kd_M_erasedPages_10 kh_4) :=
  sd_aload_n (pc := 10) (kt_tab_get kx_M_erasedPages 7 rfl) rfl <|
  sd_iload_n (pc := 11) (kt_tab_get kx_M_erasedPages 8 rfl) rfl <|
  sd_callV (pc := 12) km_M_erased (by decide) kv_M_erased (ci := 7) kt_hc7 (by decide) (kt_tab_get kx_M_erasedPages 9 rfl) (kg_M_erasedPages_in _ (List.mem_of_getElem? (i := 4) rfl)) <|
  sd_if_eq (pc := 15) (tgt := 24) (kt_tab_get kx_M_erasedPages 10 rfl) rfl (kz_M_erasedPages_24 zh_4) (kz_M_erasedPages_18 zh_4)
noncomputable def kd_M_erasedPages_4b (kh_4 : kt_D) : kt_D := ki_iload 2 <| ki_push (.int 7) <| ki_icmp_ge (ki_drop 2 (ki_drop 0 kd_M_erasedPages_32)) (kd_M_erasedPages_10 kh_4)
theorem kz_M_erasedPages_4b {kh_4 : kt_D} (zh_4 : kt_Snd l kt_shM kb_M_erasedPages 3 RX7 (some .int) 1 0 0 true true 4 kh_4) : kt_Snd l kt_shM kb_M_erasedPages 3 RX7 (some .int) 1 0 0 true true 4 (kd_M_erasedPages_4b kh_4) :=
  sd_iload_n (pc := 4) (kt_tab_get kx_M_erasedPages 4 rfl) rfl <|
  sd_bipush (pc := 5) (kt_tab_get kx_M_erasedPages 5 rfl) kc_b_7 <|
  sd_icmp_ge (pc := 7) (tgt := 32) (kt_tab_get kx_M_erasedPages 6 rfl) rfl (sd_drop (k := 2) (sd_drop (k := 0) kz_M_erasedPages_32)) (kz_M_erasedPages_10 zh_4)
noncomputable def kd_M_erasedPages_4 (n : Nat) : kt_D := Nat.rec (fun _ _ _ => none) (fun _ ih => kd_M_erasedPages_4b ih) n
theorem kz_M_erasedPages_4 (n : Nat) : kt_Snd l kt_shM kb_M_erasedPages 3 RX7 (some .int) 1 0 0 true true 4 (kd_M_erasedPages_4 n) := by
  induction n with
  | zero => exact sd_fail
  | succ n ih => exact kz_M_erasedPages_4b ih
noncomputable def kd_M_erasedPages_0 : kt_D := ki_push (.int 0) <| ki_istore 1 <| ki_push (.int 0) <| ki_istore 2 <| (kd_M_erasedPages_4 100)
theorem kz_M_erasedPages_0 : kt_Snd l kt_shM kb_M_erasedPages 3 RX7 (some .int) 1 0 0 true true 0 kd_M_erasedPages_0 :=
  sd_iconst (pc := 0) (kt_tab_get kx_M_erasedPages 0 rfl) kc_i_0 <|
  sd_istore_n (pc := 1) (kt_tab_get kx_M_erasedPages 1 rfl) rfl (by decide) <|
  sd_iconst (pc := 2) (kt_tab_get kx_M_erasedPages 2 rfl) kc_i_0 <|
  sd_istore_n (pc := 3) (kt_tab_get kx_M_erasedPages 3 rfl) rfl (by decide) <|
  (kz_M_erasedPages_4 100)
noncomputable def kf_M_erasedPages : kt_F := kt_run 3 kd_M_erasedPages_0
theorem km_M_erasedPages : kt_M l kt_shM ky_M_erasedPages kb_M_erasedPages 3 (some .int) 1 true kf_M_erasedPages := kt_method (by decide) rfl kz_M_erasedPages_0
noncomputable def kd_M_seal_35 : kt_D := ki_iload 2 <| ki_push (.int 2147483647) <| ki_iand <| ki_iret
theorem kz_M_seal_35 : kt_Snd l kt_shM kb_M_seal 4 RX7 (some .int) 0 0 0 true true 35 kd_M_seal_35 :=
  sd_iload_n (pc := 35) (kt_tab_get kx_M_seal 24 rfl) rfl <|
  sd_ldc (pc := 36) (kt_tab_get kx_M_seal 25 rfl) (kg_M_seal_in _ (List.mem_of_getElem? (i := 4) rfl)) <|
  sd_iand (pc := 38) (kt_tab_get kx_M_seal 26 rfl) <|
  sd_iret (pc := 39) rfl (by decide) (kt_tab_get kx_M_seal 27 rfl)
noncomputable def kd_M_seal_10 (kh_5 : kt_D) : kt_D := ki_iload 2 <| ki_aload 0 <| ki_get kt_shM 7 1 <| ki_push (.int 6) <| ki_iload 1 <| ki_imul <| ki_iload 3 <| ki_iadd <| ki_iald kt_shM <| ki_ixor <| ki_push (.int 16777619) <| ki_imul <| ki_push (.int 1) <| ki_iadd <| ki_istore 2 <| ki_iinc 3 1 <| kh_5
theorem kz_M_seal_10 {kh_5 : kt_D} (zh_5 : kt_Snd l kt_shM kb_M_seal 4 RX7 (some .int) 0 0 0 true true 5 kh_5) : kt_Snd l kt_shM kb_M_seal 4 RX7 (some .int) 0 0 0 true true 10 (kd_M_seal_10 kh_5) :=
  sd_iload_n (pc := 10) (kt_tab_get kx_M_seal 7 rfl) rfl <|
  sd_aload_n (pc := 11) (kt_tab_get kx_M_seal 8 rfl) rfl <|
  sd_get (pc := 12) (k := 1) (ci := 7) kt_hc7 kt_hin7 (by decide) (kt_tab_get kx_M_seal 9 rfl) (kg_M_seal_in _ (List.mem_of_getElem? (i := 5) rfl)) <|
  sd_bipush (pc := 15) (kt_tab_get kx_M_seal 10 rfl) kc_b_6 <|
  sd_iload_n (pc := 17) (kt_tab_get kx_M_seal 11 rfl) rfl <|
  sd_imul (pc := 18) (kt_tab_get kx_M_seal 12 rfl) <|
  sd_iload_n (pc := 19) (kt_tab_get kx_M_seal 13 rfl) rfl <|
  sd_iadd (pc := 20) (kt_tab_get kx_M_seal 14 rfl) <|
  sd_iald (pc := 21) (kt_tab_get kx_M_seal 15 rfl) <|
  sd_ixor (pc := 22) (kt_tab_get kx_M_seal 16 rfl) <|
  sd_ldc (pc := 23) (kt_tab_get kx_M_seal 17 rfl) (kg_M_seal_in _ (List.mem_of_getElem? (i := 6) rfl)) <|
  sd_imul (pc := 25) (kt_tab_get kx_M_seal 18 rfl) <|
  sd_iconst (pc := 26) (kt_tab_get kx_M_seal 19 rfl) kc_i_1 <|
  sd_iadd (pc := 27) (kt_tab_get kx_M_seal 20 rfl) <|
  sd_istore_n (pc := 28) (kt_tab_get kx_M_seal 21 rfl) rfl (by decide) <|
  sd_iinc (pc := 29) (kt_tab_get kx_M_seal 22 rfl) kc_i_1 (by decide) <|
  sd_goto (pc := 32) (tgt := 5) (kt_tab_get kx_M_seal 23 rfl) rfl zh_5
noncomputable def kd_M_seal_5b (kh_5 : kt_D) : kt_D := ki_iload 3 <| ki_push (.int 5) <| ki_icmp_ge (ki_drop 3 (ki_drop 1 (ki_drop 0 kd_M_seal_35))) (kd_M_seal_10 kh_5)
theorem kz_M_seal_5b {kh_5 : kt_D} (zh_5 : kt_Snd l kt_shM kb_M_seal 4 RX7 (some .int) 0 0 0 true true 5 kh_5) : kt_Snd l kt_shM kb_M_seal 4 RX7 (some .int) 0 0 0 true true 5 (kd_M_seal_5b kh_5) :=
  sd_iload_n (pc := 5) (kt_tab_get kx_M_seal 4 rfl) rfl <|
  sd_iconst (pc := 6) (kt_tab_get kx_M_seal 5 rfl) kc_i_5 <|
  sd_icmp_ge (pc := 7) (tgt := 35) (kt_tab_get kx_M_seal 6 rfl) rfl (sd_drop (k := 3) (sd_drop (k := 1) (sd_drop (k := 0) kz_M_seal_35))) (kz_M_seal_10 zh_5)
noncomputable def kd_M_seal_5 (n : Nat) : kt_D := Nat.rec (fun _ _ _ => none) (fun _ ih => kd_M_seal_5b ih) n
theorem kz_M_seal_5 (n : Nat) : kt_Snd l kt_shM kb_M_seal 4 RX7 (some .int) 0 0 0 true true 5 (kd_M_seal_5 n) := by
  induction n with
  | zero => exact sd_fail
  | succ n ih => exact kz_M_seal_5b ih
noncomputable def kd_M_seal_0 : kt_D := ki_push (.int 7) <| ki_istore 2 <| ki_push (.int 0) <| ki_istore 3 <| (kd_M_seal_5 100)
theorem kz_M_seal_0 : kt_Snd l kt_shM kb_M_seal 4 RX7 (some .int) 0 0 0 true true 0 kd_M_seal_0 :=
  sd_bipush (pc := 0) (kt_tab_get kx_M_seal 0 rfl) kc_b_7 <|
  sd_istore_n (pc := 2) (kt_tab_get kx_M_seal 1 rfl) rfl (by decide) <|
  sd_iconst (pc := 3) (kt_tab_get kx_M_seal 2 rfl) kc_i_0 <|
  sd_istore_n (pc := 4) (kt_tab_get kx_M_seal 3 rfl) rfl (by decide) <|
  (kz_M_seal_5 100)
noncomputable def kf_M_seal : kt_F := kt_run 4 kd_M_seal_0
theorem km_M_seal : kt_M l kt_shM ky_M_seal kb_M_seal 4 (some .int) 0 true kf_M_seal := kt_method (by decide) rfl kz_M_seal_0
noncomputable def kd_M_nameOf_0 : kt_D := ki_aload 0 <| ki_get kt_shM 7 1 <| ki_push (.int 6) <| ki_iload 1 <| ki_imul <| ki_iald kt_shM <| ki_push (.int 15) <| ki_iand <| ki_iret
theorem kz_M_nameOf_0 : kt_Snd l kt_shM kb_M_nameOf 2 RX7 (some .int) 0 0 0 true true 0 kd_M_nameOf_0 :=
  sd_aload_n (pc := 0) (kt_tab_get kx_M_nameOf 0 rfl) rfl <|
  sd_get (pc := 1) (k := 1) (ci := 7) kt_hc7 kt_hin7 (by decide) (kt_tab_get kx_M_nameOf 1 rfl) (kg_M_nameOf_in _ (List.mem_of_getElem? (i := 4) rfl)) <|
  sd_bipush (pc := 4) (kt_tab_get kx_M_nameOf 2 rfl) kc_b_6 <|
  sd_iload_n (pc := 6) (kt_tab_get kx_M_nameOf 3 rfl) rfl <|
  sd_imul (pc := 7) (kt_tab_get kx_M_nameOf 4 rfl) <|
  sd_iald (pc := 8) (kt_tab_get kx_M_nameOf 5 rfl) <|
  sd_bipush (pc := 9) (kt_tab_get kx_M_nameOf 6 rfl) kc_b_15 <|
  sd_iand (pc := 11) (kt_tab_get kx_M_nameOf 7 rfl) <|
  sd_iret (pc := 12) rfl (by decide) (kt_tab_get kx_M_nameOf 8 rfl)
noncomputable def kf_M_nameOf : kt_F := kt_run 2 kd_M_nameOf_0
theorem km_M_nameOf : kt_M l kt_shM ky_M_nameOf kb_M_nameOf 2 (some .int) 0 true kf_M_nameOf := kt_method (by decide) rfl kz_M_nameOf_0
noncomputable def kd_M_serialOf_0 : kt_D := ki_aload 0 <| ki_get kt_shM 7 1 <| ki_push (.int 6) <| ki_iload 1 <| ki_imul <| ki_iald kt_shM <| ki_push (.int 4) <| ki_ishr <| ki_iret
theorem kz_M_serialOf_0 : kt_Snd l kt_shM kb_M_serialOf 2 RX7 (some .int) 0 0 0 true true 0 kd_M_serialOf_0 :=
  sd_aload_n (pc := 0) (kt_tab_get kx_M_serialOf 0 rfl) rfl <|
  sd_get (pc := 1) (k := 1) (ci := 7) kt_hc7 kt_hin7 (by decide) (kt_tab_get kx_M_serialOf 1 rfl) (kg_M_serialOf_in _ (List.mem_of_getElem? (i := 4) rfl)) <|
  sd_bipush (pc := 4) (kt_tab_get kx_M_serialOf 2 rfl) kc_b_6 <|
  sd_iload_n (pc := 6) (kt_tab_get kx_M_serialOf 3 rfl) rfl <|
  sd_imul (pc := 7) (kt_tab_get kx_M_serialOf 4 rfl) <|
  sd_iald (pc := 8) (kt_tab_get kx_M_serialOf 5 rfl) <|
  sd_iconst (pc := 9) (kt_tab_get kx_M_serialOf 6 rfl) kc_i_4 <|
  sd_ishr (pc := 10) (kt_tab_get kx_M_serialOf 7 rfl) <|
  sd_iret (pc := 11) rfl (by decide) (kt_tab_get kx_M_serialOf 8 rfl)
noncomputable def kf_M_serialOf : kt_F := kt_run 2 kd_M_serialOf_0
theorem km_M_serialOf : kt_M l kt_shM ky_M_serialOf kb_M_serialOf 2 (some .int) 0 true kf_M_serialOf := kt_method (by decide) rfl kz_M_serialOf_0
noncomputable def kd_M_page_33 : kt_D := ki_push (.int (-1)) <| ki_iret
theorem kz_M_page_33 : kt_Snd l kt_shM kb_M_page 3 RX7 (some .int) 1 0 0 true true 33 kd_M_page_33 :=
  sd_iconst (pc := 33) (kt_tab_get kx_M_page 18 rfl) kc_i_m1 <|
  sd_iret (pc := 34) rfl (by decide) (kt_tab_get kx_M_page 19 rfl)
noncomputable def kd_M_page_27 (kh_2 : kt_D) : kt_D := ki_iinc 2 1 <| kh_2
theorem kz_M_page_27 {kh_2 : kt_D} (zh_2 : kt_Snd l kt_shM kb_M_page 3 RX7 (some .int) 1 0 0 true true 2 kh_2) : kt_Snd l kt_shM kb_M_page 3 RX7 (some .int) 1 0 0 true true 27 (kd_M_page_27 kh_2) :=
  sd_iinc (pc := 27) (kt_tab_get kx_M_page 16 rfl) kc_i_1 (by decide) <|
  sd_goto (pc := 30) (tgt := 2) (kt_tab_get kx_M_page 17 rfl) rfl zh_2
noncomputable def kd_M_page_25 : kt_D := ki_iload 2 <| ki_iret
theorem kz_M_page_25 : kt_Snd l kt_shM kb_M_page 3 RX7 (some .int) 1 0 0 true true 25 kd_M_page_25 :=
  sd_iload_n (pc := 25) (kt_tab_get kx_M_page 14 rfl) rfl <|
  sd_iret (pc := 26) rfl (by decide) (kt_tab_get kx_M_page 15 rfl)
noncomputable def kd_M_page_16 (kh_2 : kt_D) : kt_D := ki_aload 0 <| ki_iload 2 <| ki_callV kt_shM 7 1 kf_M_nameOf <| ki_iload 1 <| ki_icmp_ne (kd_M_page_27 kh_2) (ki_drop 1 (ki_drop 0 kd_M_page_25))
theorem kz_M_page_16 {kh_2 : kt_D} (zh_2 : kt_Snd l kt_shM kb_M_page 3 RX7 (some .int) 1 0 0 true true 2 kh_2) : kt_Snd l kt_shM kb_M_page 3 RX7 (some .int) 1 0 0 true true 16 (kd_M_page_16 kh_2) :=
  sd_aload_n (pc := 16) (kt_tab_get kx_M_page 9 rfl) rfl <|
  sd_iload_n (pc := 17) (kt_tab_get kx_M_page 10 rfl) rfl <|
  sd_callV (pc := 18) km_M_nameOf (by decide) kv_M_nameOf (ci := 7) kt_hc7 (by decide) (kt_tab_get kx_M_page 11 rfl) (kg_M_page_in _ (List.mem_of_getElem? (i := 4) rfl)) <|
  sd_iload_n (pc := 21) (kt_tab_get kx_M_page 12 rfl) rfl <|
  sd_icmp_ne (pc := 22) (tgt := 27) (kt_tab_get kx_M_page 13 rfl) rfl (kz_M_page_27 zh_2) (sd_drop (k := 1) (sd_drop (k := 0) kz_M_page_25))
noncomputable def kd_M_page_8 (kh_2 : kt_D) : kt_D := ki_aload 0 <| ki_iload 2 <| ki_callV kt_shM 7 1 kf_M_erased <| ki_if_ne (kd_M_page_27 kh_2) (kd_M_page_16 kh_2)
theorem kz_M_page_8 {kh_2 : kt_D} (zh_2 : kt_Snd l kt_shM kb_M_page 3 RX7 (some .int) 1 0 0 true true 2 kh_2) : kt_Snd l kt_shM kb_M_page 3 RX7 (some .int) 1 0 0 true true 8 (kd_M_page_8 kh_2) :=
  sd_aload_n (pc := 8) (kt_tab_get kx_M_page 5 rfl) rfl <|
  sd_iload_n (pc := 9) (kt_tab_get kx_M_page 6 rfl) rfl <|
  sd_callV (pc := 10) km_M_erased (by decide) kv_M_erased (ci := 7) kt_hc7 (by decide) (kt_tab_get kx_M_page 7 rfl) (kg_M_page_in _ (List.mem_of_getElem? (i := 5) rfl)) <|
  sd_if_ne (pc := 13) (tgt := 27) (kt_tab_get kx_M_page 8 rfl) rfl (kz_M_page_27 zh_2) (kz_M_page_16 zh_2)
noncomputable def kd_M_page_2b (kh_2 : kt_D) : kt_D := ki_iload 2 <| ki_push (.int 7) <| ki_icmp_ge (ki_drop 2 (ki_drop 1 (ki_drop 0 kd_M_page_33))) (kd_M_page_8 kh_2)
theorem kz_M_page_2b {kh_2 : kt_D} (zh_2 : kt_Snd l kt_shM kb_M_page 3 RX7 (some .int) 1 0 0 true true 2 kh_2) : kt_Snd l kt_shM kb_M_page 3 RX7 (some .int) 1 0 0 true true 2 (kd_M_page_2b kh_2) :=
  sd_iload_n (pc := 2) (kt_tab_get kx_M_page 2 rfl) rfl <|
  sd_bipush (pc := 3) (kt_tab_get kx_M_page 3 rfl) kc_b_7 <|
  sd_icmp_ge (pc := 5) (tgt := 33) (kt_tab_get kx_M_page 4 rfl) rfl (sd_drop (k := 2) (sd_drop (k := 1) (sd_drop (k := 0) kz_M_page_33))) (kz_M_page_8 zh_2)
noncomputable def kd_M_page_2 (n : Nat) : kt_D := Nat.rec (fun _ _ _ => none) (fun _ ih => kd_M_page_2b ih) n
theorem kz_M_page_2 (n : Nat) : kt_Snd l kt_shM kb_M_page 3 RX7 (some .int) 1 0 0 true true 2 (kd_M_page_2 n) := by
  induction n with
  | zero => exact sd_fail
  | succ n ih => exact kz_M_page_2b ih
noncomputable def kd_M_page_0 : kt_D := ki_push (.int 0) <| ki_istore 2 <| (kd_M_page_2 100)
theorem kz_M_page_0 : kt_Snd l kt_shM kb_M_page 3 RX7 (some .int) 1 0 0 true true 0 kd_M_page_0 :=
  sd_iconst (pc := 0) (kt_tab_get kx_M_page 0 rfl) kc_i_0 <|
  sd_istore_n (pc := 1) (kt_tab_get kx_M_page 1 rfl) rfl (by decide) <|
  (kz_M_page_2 100)
noncomputable def kf_M_page : kt_F := kt_run 3 kd_M_page_0
theorem km_M_page : kt_M l kt_shM ky_M_page kb_M_page 3 (some .int) 1 true kf_M_page := kt_method (by decide) rfl kz_M_page_0
noncomputable def kd_M_data_0 : kt_D := ki_aload 0 <| ki_get kt_shM 7 1 <| ki_push (.int 6) <| ki_aload 0 <| ki_iload 1 <| ki_callV kt_shM 7 1 kf_M_page <| ki_imul <| ki_iload 2 <| ki_iadd <| ki_iald kt_shM <| ki_iret
theorem kz_M_data_0 : kt_Snd l kt_shM kb_M_data 3 RX7 (some .int) 2 0 0 true true 0 kd_M_data_0 :=
  sd_aload_n (pc := 0) (kt_tab_get kx_M_data 0 rfl) rfl <|
  sd_get (pc := 1) (k := 1) (ci := 7) kt_hc7 kt_hin7 (by decide) (kt_tab_get kx_M_data 1 rfl) (kg_M_data_in _ (List.mem_of_getElem? (i := 4) rfl)) <|
  sd_bipush (pc := 4) (kt_tab_get kx_M_data 2 rfl) kc_b_6 <|
  sd_aload_n (pc := 6) (kt_tab_get kx_M_data 3 rfl) rfl <|
  sd_iload_n (pc := 7) (kt_tab_get kx_M_data 4 rfl) rfl <|
  sd_callV (pc := 8) km_M_page (by decide) kv_M_page (ci := 7) kt_hc7 (by decide) (kt_tab_get kx_M_data 5 rfl) (kg_M_data_in _ (List.mem_of_getElem? (i := 5) rfl)) <|
  sd_imul (pc := 11) (kt_tab_get kx_M_data 6 rfl) <|
  sd_iload_n (pc := 12) (kt_tab_get kx_M_data 7 rfl) rfl <|
  sd_iadd (pc := 13) (kt_tab_get kx_M_data 8 rfl) <|
  sd_iald (pc := 14) (kt_tab_get kx_M_data 9 rfl) <|
  sd_iret (pc := 15) rfl (by decide) (kt_tab_get kx_M_data 10 rfl)
noncomputable def kf_M_data : kt_F := kt_run 3 kd_M_data_0
theorem km_M_data : kt_M l kt_shM ky_M_data kb_M_data 3 (some .int) 2 true kf_M_data := kt_method (by decide) rfl kz_M_data_0
noncomputable def kd_M_erase_26 : kt_D := ki_vret
theorem kz_M_erase_26 : kt_Snd l kt_shM kb_M_erase 3 RX7 none 0 0 0 false false 26 kd_M_erase_26 :=
  sd_vret (pc := 26) rfl (by decide) (kt_tab_get kx_M_erase 16 rfl)
noncomputable def kd_M_erase_8 (kh_2 : kt_D) : kt_D := ki_aload 0 <| ki_get kt_shM 7 1 <| ki_push (.int 6) <| ki_iload 1 <| ki_imul <| ki_iload 2 <| ki_iadd <| ki_push (.int (-1)) <| ki_iast kt_shM <| ki_iinc 2 1 <| kh_2
theorem kz_M_erase_8 {kh_2 : kt_D} (zh_2 : kt_Snd l kt_shM kb_M_erase 3 RX7 none 0 0 0 false false 2 kh_2) : kt_Snd l kt_shM kb_M_erase 3 RX7 none 0 0 0 false false 8 (kd_M_erase_8 kh_2) :=
  sd_aload_n (pc := 8) (kt_tab_get kx_M_erase 5 rfl) rfl <|
  sd_get (pc := 9) (k := 1) (ci := 7) kt_hc7 kt_hin7 (by decide) (kt_tab_get kx_M_erase 6 rfl) (kg_M_erase_in _ (List.mem_of_getElem? (i := 4) rfl)) <|
  sd_bipush (pc := 12) (kt_tab_get kx_M_erase 7 rfl) kc_b_6 <|
  sd_iload_n (pc := 14) (kt_tab_get kx_M_erase 8 rfl) rfl <|
  sd_imul (pc := 15) (kt_tab_get kx_M_erase 9 rfl) <|
  sd_iload_n (pc := 16) (kt_tab_get kx_M_erase 10 rfl) rfl <|
  sd_iadd (pc := 17) (kt_tab_get kx_M_erase 11 rfl) <|
  sd_iconst (pc := 18) (kt_tab_get kx_M_erase 12 rfl) kc_i_m1 <|
  sd_iast (pc := 19) (kt_tab_get kx_M_erase 13 rfl) <|
  sd_iinc (pc := 20) (kt_tab_get kx_M_erase 14 rfl) kc_i_1 (by decide) <|
  sd_goto (pc := 23) (tgt := 2) (kt_tab_get kx_M_erase 15 rfl) rfl zh_2
noncomputable def kd_M_erase_2b (kh_2 : kt_D) : kt_D := ki_iload 2 <| ki_push (.int 6) <| ki_icmp_ge (ki_drop 2 (ki_drop 1 (ki_drop 0 kd_M_erase_26))) (kd_M_erase_8 kh_2)
theorem kz_M_erase_2b {kh_2 : kt_D} (zh_2 : kt_Snd l kt_shM kb_M_erase 3 RX7 none 0 0 0 false false 2 kh_2) : kt_Snd l kt_shM kb_M_erase 3 RX7 none 0 0 0 false false 2 (kd_M_erase_2b kh_2) :=
  sd_iload_n (pc := 2) (kt_tab_get kx_M_erase 2 rfl) rfl <|
  sd_bipush (pc := 3) (kt_tab_get kx_M_erase 3 rfl) kc_b_6 <|
  sd_icmp_ge (pc := 5) (tgt := 26) (kt_tab_get kx_M_erase 4 rfl) rfl (sd_drop (k := 2) (sd_drop (k := 1) (sd_drop (k := 0) kz_M_erase_26))) (kz_M_erase_8 zh_2)
noncomputable def kd_M_erase_2 (n : Nat) : kt_D := Nat.rec (fun _ _ _ => none) (fun _ ih => kd_M_erase_2b ih) n
theorem kz_M_erase_2 (n : Nat) : kt_Snd l kt_shM kb_M_erase 3 RX7 none 0 0 0 false false 2 (kd_M_erase_2 n) := by
  induction n with
  | zero => exact sd_fail
  | succ n ih => exact kz_M_erase_2b ih
noncomputable def kd_M_erase_0 : kt_D := ki_push (.int 0) <| ki_istore 2 <| (kd_M_erase_2 100)
theorem kz_M_erase_0 : kt_Snd l kt_shM kb_M_erase 3 RX7 none 0 0 0 false false 0 kd_M_erase_0 :=
  sd_iconst (pc := 0) (kt_tab_get kx_M_erase 0 rfl) kc_i_0 <|
  sd_istore_n (pc := 1) (kt_tab_get kx_M_erase 1 rfl) rfl (by decide) <|
  (kz_M_erase_2 100)
noncomputable def kf_M_erase : kt_F := kt_run 3 kd_M_erase_0
theorem km_M_erase : kt_M l kt_shM ky_M_erase kb_M_erase 3 none 0 false kf_M_erase := kt_method (by decide) rfl kz_M_erase_0
noncomputable def kd_M_empty_0 : kt_D := ki_aload 0 <| ki_push (.int 0) <| ki_put kt_shM 7 6 1 <| ki_aload 0 <| ki_push (.int 0) <| ki_put kt_shM 7 7 0 <| ki_aload 0 <| ki_push (.int 0) <| ki_put kt_shM 7 8 0 <| ki_aload 0 <| ki_push (.int 0) <| ki_put kt_shM 7 10 0 <| ki_aload 0 <| ki_push (.int 0) <| ki_put kt_shM 7 12 0 <| ki_aload 0 <| ki_push (.int 0) <| ki_put kt_shM 7 13 0 <| ki_vret
theorem kz_M_empty_0 : kt_Snd l kt_shM kb_M_empty 1 RX7 none 0 0 0 false false 0 kd_M_empty_0 :=
  sd_aload_n (pc := 0) (kt_tab_get kx_M_empty 0 rfl) rfl <|
  sd_iconst (pc := 1) (kt_tab_get kx_M_empty 1 rfl) kc_i_0 <|
  sd_put (pc := 2) (k := 6) (ci := 7) kt_hc7 kt_hin7 tyX7_ok nmX7 (by decide) rfl rfl (Or.inr ⟨rfl, rfl⟩) (kt_tab_get kx_M_empty 2 rfl) (kg_M_empty_in _ (List.mem_of_getElem? (i := 4) rfl)) <|
  sd_aload_n (pc := 5) (kt_tab_get kx_M_empty 3 rfl) rfl <|
  sd_iconst (pc := 6) (kt_tab_get kx_M_empty 4 rfl) kc_i_0 <|
  sd_put (pc := 7) (k := 7) (ci := 7) kt_hc7 kt_hin7 tyX7_ok nmX7 (by decide) rfl rfl (Or.inl ⟨rfl, rfl⟩) (kt_tab_get kx_M_empty 5 rfl) (kg_M_empty_in _ (List.mem_of_getElem? (i := 5) rfl)) <|
  sd_aload_n (pc := 10) (kt_tab_get kx_M_empty 6 rfl) rfl <|
  sd_iconst (pc := 11) (kt_tab_get kx_M_empty 7 rfl) kc_i_0 <|
  sd_put (pc := 12) (k := 8) (ci := 7) kt_hc7 kt_hin7 tyX7_ok nmX7 (by decide) rfl rfl (Or.inl ⟨rfl, rfl⟩) (kt_tab_get kx_M_empty 8 rfl) (kg_M_empty_in _ (List.mem_of_getElem? (i := 6) rfl)) <|
  sd_aload_n (pc := 15) (kt_tab_get kx_M_empty 9 rfl) rfl <|
  sd_iconst (pc := 16) (kt_tab_get kx_M_empty 10 rfl) kc_i_0 <|
  sd_put (pc := 17) (k := 10) (ci := 7) kt_hc7 kt_hin7 tyX7_ok nmX7 (by decide) rfl rfl (Or.inl ⟨rfl, rfl⟩) (kt_tab_get kx_M_empty 11 rfl) (kg_M_empty_in _ (List.mem_of_getElem? (i := 7) rfl)) <|
  sd_aload_n (pc := 20) (kt_tab_get kx_M_empty 12 rfl) rfl <|
  sd_iconst (pc := 21) (kt_tab_get kx_M_empty 13 rfl) kc_i_0 <|
  sd_put (pc := 22) (k := 12) (ci := 7) kt_hc7 kt_hin7 tyX7_ok nmX7 (by decide) rfl rfl (Or.inl ⟨rfl, rfl⟩) (kt_tab_get kx_M_empty 14 rfl) (kg_M_empty_in _ (List.mem_of_getElem? (i := 8) rfl)) <|
  sd_aload_n (pc := 25) (kt_tab_get kx_M_empty 15 rfl) rfl <|
  sd_iconst (pc := 26) (kt_tab_get kx_M_empty 16 rfl) kc_i_0 <|
  sd_put (pc := 27) (k := 13) (ci := 7) kt_hc7 kt_hin7 tyX7_ok nmX7 (by decide) rfl rfl (Or.inl ⟨rfl, rfl⟩) (kt_tab_get kx_M_empty 17 rfl) (kg_M_empty_in _ (List.mem_of_getElem? (i := 9) rfl)) <|
  sd_vret (pc := 30) rfl (by decide) (kt_tab_get kx_M_empty 18 rfl)
noncomputable def kf_M_empty : kt_F := kt_run 1 kd_M_empty_0
theorem km_M_empty : kt_M l kt_shM ky_M_empty kb_M_empty 1 none 0 false kf_M_empty := kt_method (by decide) rfl kz_M_empty_0
noncomputable def kd_M_off_0 : kt_D := ki_aload 0 <| ki_push (.int 0) <| ki_put kt_shM 7 5 1 <| ki_aload 0 <| ki_callV kt_shM 7 0 kf_M_empty <| ki_aload 0 <| ki_push (.int (-1)) <| ki_put kt_shM 7 4 0 <| ki_vret
theorem kz_M_off_0 : kt_Snd l kt_shM kb_M_off 1 RX7 none 1 0 0 false false 0 kd_M_off_0 :=
  sd_aload_n (pc := 0) (kt_tab_get kx_M_off 0 rfl) rfl <|
  sd_iconst (pc := 1) (kt_tab_get kx_M_off 1 rfl) kc_i_0 <|
  sd_put (pc := 2) (k := 5) (ci := 7) kt_hc7 kt_hin7 tyX7_ok nmX7 (by decide) rfl rfl (Or.inr ⟨rfl, rfl⟩) (kt_tab_get kx_M_off 2 rfl) (kg_M_off_in _ (List.mem_of_getElem? (i := 4) rfl)) <|
  sd_aload_n (pc := 5) (kt_tab_get kx_M_off 3 rfl) rfl <|
  sd_callV (pc := 6) km_M_empty (by decide) kv_M_empty (ci := 7) kt_hc7 (by decide) (kt_tab_get kx_M_off 4 rfl) (kg_M_off_in _ (List.mem_of_getElem? (i := 5) rfl)) <|
  sd_aload_n (pc := 9) (kt_tab_get kx_M_off 5 rfl) rfl <|
  sd_iconst (pc := 10) (kt_tab_get kx_M_off 6 rfl) kc_i_m1 <|
  sd_put (pc := 11) (k := 4) (ci := 7) kt_hc7 kt_hin7 tyX7_ok nmX7 (by decide) rfl rfl (Or.inl ⟨rfl, rfl⟩) (kt_tab_get kx_M_off 7 rfl) (kg_M_off_in _ (List.mem_of_getElem? (i := 6) rfl)) <|
  sd_vret (pc := 14) rfl (by decide) (kt_tab_get kx_M_off 8 rfl)
noncomputable def kf_M_off : kt_F := kt_run 1 kd_M_off_0
theorem km_M_off : kt_M l kt_shM ky_M_off kb_M_off 1 none 1 false kf_M_off := kt_method (by decide) rfl kz_M_off_0
noncomputable def kd_M_mayWrite_17 : kt_D := ki_aload 0 <| ki_dup <| ki_get kt_shM 7 3 <| ki_push (.int 1) <| ki_iadd <| ki_put kt_shM 7 3 0 <| ki_aload 0 <| ki_dup <| ki_get kt_shM 7 2 <| ki_push (.int 1) <| ki_iadd <| ki_put kt_shM 7 2 0 <| ki_push (.int 1) <| ki_zret
theorem kz_M_mayWrite_17 : kt_Snd l kt_shM kb_M_mayWrite 1 RX7 (some .boolean) 2 0 0 false false 17 kd_M_mayWrite_17 :=
  sd_aload_n (pc := 17) (kt_tab_get kx_M_mayWrite 9 rfl) rfl <|
  sd_dup (pc := 18) (kt_tab_get kx_M_mayWrite 10 rfl) <|
  sd_get (pc := 19) (k := 3) (ci := 7) kt_hc7 kt_hin7 (by decide) (kt_tab_get kx_M_mayWrite 11 rfl) (kg_M_mayWrite_in _ (List.mem_of_getElem? (i := 4) rfl)) <|
  sd_iconst (pc := 22) (kt_tab_get kx_M_mayWrite 12 rfl) kc_i_1 <|
  sd_iadd (pc := 23) (kt_tab_get kx_M_mayWrite 13 rfl) <|
  sd_put (pc := 24) (k := 3) (ci := 7) kt_hc7 kt_hin7 tyX7_ok nmX7 (by decide) rfl rfl (Or.inl ⟨rfl, rfl⟩) (kt_tab_get kx_M_mayWrite 14 rfl) (kg_M_mayWrite_in _ (List.mem_of_getElem? (i := 4) rfl)) <|
  sd_aload_n (pc := 27) (kt_tab_get kx_M_mayWrite 15 rfl) rfl <|
  sd_dup (pc := 28) (kt_tab_get kx_M_mayWrite 16 rfl) <|
  sd_get (pc := 29) (k := 2) (ci := 7) kt_hc7 kt_hin7 (by decide) (kt_tab_get kx_M_mayWrite 17 rfl) (kg_M_mayWrite_in _ (List.mem_of_getElem? (i := 5) rfl)) <|
  sd_iconst (pc := 32) (kt_tab_get kx_M_mayWrite 18 rfl) kc_i_1 <|
  sd_iadd (pc := 33) (kt_tab_get kx_M_mayWrite 19 rfl) <|
  sd_put (pc := 34) (k := 2) (ci := 7) kt_hc7 kt_hin7 tyX7_ok nmX7 (by decide) rfl rfl (Or.inl ⟨rfl, rfl⟩) (kt_tab_get kx_M_mayWrite 20 rfl) (kg_M_mayWrite_in _ (List.mem_of_getElem? (i := 5) rfl)) <|
  sd_iconst (pc := 37) (kt_tab_get kx_M_mayWrite 21 rfl) kc_i_1 <|
  sd_zret (pc := 38) rfl (by decide) (kt_tab_get kx_M_mayWrite 22 rfl)
noncomputable def kd_M_mayWrite_11 : kt_D := ki_aload 0 <| ki_callV kt_shM 7 0 kf_M_off <| ki_push (.int 0) <| ki_zret
theorem kz_M_mayWrite_11 : kt_Snd l kt_shM kb_M_mayWrite 1 RX7 (some .boolean) 2 0 0 false false 11 kd_M_mayWrite_11 :=
  sd_aload_n (pc := 11) (kt_tab_get kx_M_mayWrite 5 rfl) rfl <|
  sd_callV (pc := 12) km_M_off (by decide) kv_M_off (ci := 7) kt_hc7 (by decide) (kt_tab_get kx_M_mayWrite 6 rfl) (kg_M_mayWrite_in _ (List.mem_of_getElem? (i := 6) rfl)) <|
  sd_iconst (pc := 15) (kt_tab_get kx_M_mayWrite 7 rfl) kc_i_0 <|
  sd_zret (pc := 16) rfl (by decide) (kt_tab_get kx_M_mayWrite 8 rfl)
noncomputable def kd_M_mayWrite_0 : kt_D := ki_aload 0 <| ki_get kt_shM 7 3 <| ki_aload 0 <| ki_get kt_shM 7 4 <| ki_icmp_ne kd_M_mayWrite_17 kd_M_mayWrite_11
theorem kz_M_mayWrite_0 : kt_Snd l kt_shM kb_M_mayWrite 1 RX7 (some .boolean) 2 0 0 false false 0 kd_M_mayWrite_0 :=
  sd_aload_n (pc := 0) (kt_tab_get kx_M_mayWrite 0 rfl) rfl <|
  sd_get (pc := 1) (k := 3) (ci := 7) kt_hc7 kt_hin7 (by decide) (kt_tab_get kx_M_mayWrite 1 rfl) (kg_M_mayWrite_in _ (List.mem_of_getElem? (i := 4) rfl)) <|
  sd_aload_n (pc := 4) (kt_tab_get kx_M_mayWrite 2 rfl) rfl <|
  sd_get (pc := 5) (k := 4) (ci := 7) kt_hc7 kt_hin7 (by decide) (kt_tab_get kx_M_mayWrite 3 rfl) (kg_M_mayWrite_in _ (List.mem_of_getElem? (i := 7) rfl)) <|
  sd_icmp_ne (pc := 8) (tgt := 17) (kt_tab_get kx_M_mayWrite 4 rfl) rfl kz_M_mayWrite_17 kz_M_mayWrite_11
noncomputable def kf_M_mayWrite : kt_F := kt_run 1 kd_M_mayWrite_0
theorem km_M_mayWrite : kt_M l kt_shM ky_M_mayWrite kb_M_mayWrite 1 (some .boolean) 2 false kf_M_mayWrite := kt_method (by decide) rfl kz_M_mayWrite_0
noncomputable def kd_M_canPut_21 : kt_D := ki_zret
theorem kz_M_canPut_21 : kt_Snd l kt_shM kb_M_canPut 2 RX7 (some .boolean) 2 0 0 true true 21 kd_M_canPut_21 :=
  sd_zret (pc := 21) rfl (by decide) (kt_tab_get kx_M_canPut 11 rfl)
noncomputable def kd_M_canPut_16 : kt_D := ki_push (.int 1) <| kd_M_canPut_21
theorem kz_M_canPut_16 : kt_Snd l kt_shM kb_M_canPut 2 RX7 (some .boolean) 2 0 0 true true 16 kd_M_canPut_16 :=
  sd_iconst (pc := 16) (kt_tab_get kx_M_canPut 8 rfl) kc_i_1 <|
  sd_goto (pc := 17) (tgt := 21) (kt_tab_get kx_M_canPut 9 rfl) rfl kz_M_canPut_21
noncomputable def kd_M_canPut_20 : kt_D := ki_push (.int 0) <| kd_M_canPut_21
theorem kz_M_canPut_20 : kt_Snd l kt_shM kb_M_canPut 2 RX7 (some .boolean) 2 0 0 true true 20 kd_M_canPut_20 :=
  sd_iconst (pc := 20) (kt_tab_get kx_M_canPut 10 rfl) kc_i_0 <|
  kz_M_canPut_21
noncomputable def kd_M_canPut_8 : kt_D := ki_aload 0 <| ki_callV kt_shM 7 0 kf_M_erasedPages <| ki_push (.int 1) <| ki_icmp_le (ki_drop 0 kd_M_canPut_20) (ki_drop 0 kd_M_canPut_16)
theorem kz_M_canPut_8 : kt_Snd l kt_shM kb_M_canPut 2 RX7 (some .boolean) 2 0 0 true true 8 kd_M_canPut_8 :=
  sd_aload_n (pc := 8) (kt_tab_get kx_M_canPut 4 rfl) rfl <|
  sd_callV (pc := 9) km_M_erasedPages (by decide) kv_M_erasedPages (ci := 7) kt_hc7 (by decide) (kt_tab_get kx_M_canPut 5 rfl) (kg_M_canPut_in _ (List.mem_of_getElem? (i := 4) rfl)) <|
  sd_iconst (pc := 12) (kt_tab_get kx_M_canPut 6 rfl) kc_i_1 <|
  sd_icmp_le (pc := 13) (tgt := 20) (kt_tab_get kx_M_canPut 7 rfl) rfl (sd_drop (k := 0) kz_M_canPut_20) (sd_drop (k := 0) kz_M_canPut_16)
noncomputable def kd_M_canPut_0 : kt_D := ki_aload 0 <| ki_iload 1 <| ki_callV kt_shM 7 1 kf_M_page <| ki_if_ge (ki_drop 1 (ki_drop 0 kd_M_canPut_16)) (ki_drop 1 kd_M_canPut_8)
theorem kz_M_canPut_0 : kt_Snd l kt_shM kb_M_canPut 2 RX7 (some .boolean) 2 0 0 true true 0 kd_M_canPut_0 :=
  sd_aload_n (pc := 0) (kt_tab_get kx_M_canPut 0 rfl) rfl <|
  sd_iload_n (pc := 1) (kt_tab_get kx_M_canPut 1 rfl) rfl <|
  sd_callV (pc := 2) km_M_page (by decide) kv_M_page (ci := 7) kt_hc7 (by decide) (kt_tab_get kx_M_canPut 2 rfl) (kg_M_canPut_in _ (List.mem_of_getElem? (i := 5) rfl)) <|
  sd_if_ge (pc := 5) (tgt := 16) (kt_tab_get kx_M_canPut 3 rfl) rfl (sd_drop (k := 1) (sd_drop (k := 0) kz_M_canPut_16)) (sd_drop (k := 1) kz_M_canPut_8)
noncomputable def kf_M_canPut : kt_F := kt_run 2 kd_M_canPut_0
theorem km_M_canPut : kt_M l kt_shM ky_M_canPut kb_M_canPut 2 (some .boolean) 2 true kf_M_canPut := kt_method (by decide) rfl kz_M_canPut_0
noncomputable def kd_M_put_200 : kt_D := ki_push (.int 1) <| ki_zret
theorem kz_M_put_200 : kt_Snd l kt_shM kb_M_put 10 RX7 (some .boolean) 3 0 0 false false 200 kd_M_put_200 :=
  sd_iconst (pc := 200) (kt_tab_get kx_M_put 99 rfl) kc_i_1 <|
  sd_zret (pc := 201) rfl (by decide) (kt_tab_get kx_M_put 100 rfl)
noncomputable def kd_M_put_194 : kt_D := ki_aload 0 <| ki_iload 6 <| ki_callV kt_shM 7 1 kf_M_erase <| (ki_drop 6 (ki_drop 0 kd_M_put_200))
theorem kz_M_put_194 : kt_Snd l kt_shM kb_M_put 10 RX7 (some .boolean) 3 0 0 false false 194 kd_M_put_194 :=
  sd_aload_n (pc := 194) (kt_tab_get kx_M_put 96 rfl) rfl <|
  sd_iload (pc := 195) (kt_tab_get kx_M_put 97 rfl) <|
  sd_callV (pc := 197) km_M_erase (by decide) kv_M_erase (ci := 7) kt_hc7 (by decide) (kt_tab_get kx_M_put 98 rfl) (kg_M_put_in _ (List.mem_of_getElem? (i := 4) rfl)) <|
  (sd_drop (k := 6) (sd_drop (k := 0) kz_M_put_200))
noncomputable def kd_M_put_192 : kt_D := ki_push (.int 0) <| ki_zret
theorem kz_M_put_192 : kt_Snd l kt_shM kb_M_put 10 RX7 (some .boolean) 3 0 0 false false 192 kd_M_put_192 :=
  sd_iconst (pc := 192) (kt_tab_get kx_M_put 94 rfl) kc_i_0 <|
  sd_zret (pc := 193) rfl (by decide) (kt_tab_get kx_M_put 95 rfl)
noncomputable def kd_M_put_185 : kt_D := ki_aload 0 <| ki_callV kt_shM 7 0 kf_M_mayWrite <| ki_if_ne kd_M_put_194 (ki_drop 6 (ki_drop 0 kd_M_put_192))
theorem kz_M_put_185 : kt_Snd l kt_shM kb_M_put 10 RX7 (some .boolean) 3 0 0 false false 185 kd_M_put_185 :=
  sd_aload_n (pc := 185) (kt_tab_get kx_M_put 91 rfl) rfl <|
  sd_callV (pc := 186) km_M_mayWrite (by decide) kv_M_mayWrite (ci := 7) kt_hc7 (by decide) (kt_tab_get kx_M_put 92 rfl) (kg_M_put_in _ (List.mem_of_getElem? (i := 5) rfl)) <|
  sd_if_ne (pc := 189) (tgt := 194) (kt_tab_get kx_M_put 93 rfl) rfl kz_M_put_194 (sd_drop (k := 6) (sd_drop (k := 0) kz_M_put_192))
noncomputable def kd_M_put_180 : kt_D := ki_iload 6 <| ki_if_lt (ki_drop 6 (ki_drop 0 kd_M_put_200)) kd_M_put_185
theorem kz_M_put_180 : kt_Snd l kt_shM kb_M_put 10 RX7 (some .boolean) 3 0 0 false false 180 kd_M_put_180 :=
  sd_iload (pc := 180) (kt_tab_get kx_M_put 89 rfl) <|
  sd_if_lt (pc := 182) (tgt := 200) (kt_tab_get kx_M_put 90 rfl) rfl (sd_drop (k := 6) (sd_drop (k := 0) kz_M_put_200)) kz_M_put_185
noncomputable def kd_M_put_173 (kh_80 : kt_D) : kt_D := ki_iast kt_shM <| ki_iinc 9 1 <| kh_80
theorem kz_M_put_173 {kh_80 : kt_D} (zh_80 : kt_Snd l kt_shM kb_M_put 10 RX7 (some .boolean) 3 0 0 false false 80 kh_80) : kt_Snd l kt_shM kb_M_put 10 RX7 (some .boolean) 3 0 0 false false 173 (kd_M_put_173 kh_80) :=
  sd_iast (pc := 173) (kt_tab_get kx_M_put 86 rfl) <|
  sd_iinc (pc := 174) (kt_tab_get kx_M_put 87 rfl) kc_i_1 (by decide) <|
  sd_goto (pc := 177) (tgt := 80) (kt_tab_get kx_M_put 88 rfl) rfl zh_80
noncomputable def kd_M_put_167 (kh_80 : kt_D) : kt_D := ki_aload 0 <| ki_iload 7 <| ki_callV kt_shM 7 1 kf_M_seal <| (kd_M_put_173 kh_80)
theorem kz_M_put_167 {kh_80 : kt_D} (zh_80 : kt_Snd l kt_shM kb_M_put 10 RX7 (some .boolean) 3 0 0 false false 80 kh_80) : kt_Snd l kt_shM kb_M_put 10 RX7 (some .boolean) 3 0 0 false false 167 (kd_M_put_167 kh_80) :=
  sd_aload_n (pc := 167) (kt_tab_get kx_M_put 83 rfl) rfl <|
  sd_iload (pc := 168) (kt_tab_get kx_M_put 84 rfl) <|
  sd_callV (pc := 170) km_M_seal (by decide) kv_M_seal (ci := 7) kt_hc7 (by decide) (kt_tab_get kx_M_put 85 rfl) (kg_M_put_in _ (List.mem_of_getElem? (i := 6) rfl)) <|
  (kz_M_put_173 zh_80)
noncomputable def kd_M_put_162 (kh_80 : kt_D) : kt_D := ki_iload 5 <| (kd_M_put_173 kh_80)
theorem kz_M_put_162 {kh_80 : kt_D} (zh_80 : kt_Snd l kt_shM kb_M_put 10 RX7 (some .boolean) 3 0 0 false false 80 kh_80) : kt_Snd l kt_shM kb_M_put 10 RX7 (some .boolean) 3 0 0 false false 162 (kd_M_put_162 kh_80) :=
  sd_iload (pc := 162) (kt_tab_get kx_M_put 81 rfl) <|
  sd_goto (pc := 164) (tgt := 173) (kt_tab_get kx_M_put 82 rfl) rfl (kz_M_put_173 zh_80)
noncomputable def kd_M_put_156 (kh_80 : kt_D) : kt_D := ki_iload 9 <| ki_push (.int 4) <| ki_icmp_ne (kd_M_put_167 kh_80) (kd_M_put_162 kh_80)
theorem kz_M_put_156 {kh_80 : kt_D} (zh_80 : kt_Snd l kt_shM kb_M_put 10 RX7 (some .boolean) 3 0 0 false false 80 kh_80) : kt_Snd l kt_shM kb_M_put 10 RX7 (some .boolean) 3 0 0 false false 156 (kd_M_put_156 kh_80) :=
  sd_iload (pc := 156) (kt_tab_get kx_M_put 78 rfl) <|
  sd_iconst (pc := 158) (kt_tab_get kx_M_put 79 rfl) kc_i_4 <|
  sd_icmp_ne (pc := 159) (tgt := 167) (kt_tab_get kx_M_put 80 rfl) rfl (kz_M_put_167 zh_80) (kz_M_put_162 zh_80)
noncomputable def kd_M_put_151 (kh_80 : kt_D) : kt_D := ki_iload 4 <| (kd_M_put_173 kh_80)
theorem kz_M_put_151 {kh_80 : kt_D} (zh_80 : kt_Snd l kt_shM kb_M_put 10 RX7 (some .boolean) 3 0 0 false false 80 kh_80) : kt_Snd l kt_shM kb_M_put 10 RX7 (some .boolean) 3 0 0 false false 151 (kd_M_put_151 kh_80) :=
  sd_iload (pc := 151) (kt_tab_get kx_M_put 76 rfl) <|
  sd_goto (pc := 153) (tgt := 173) (kt_tab_get kx_M_put 77 rfl) rfl (kz_M_put_173 zh_80)
noncomputable def kd_M_put_145 (kh_80 : kt_D) : kt_D := ki_iload 9 <| ki_push (.int 3) <| ki_icmp_ne (kd_M_put_156 kh_80) (kd_M_put_151 kh_80)
theorem kz_M_put_145 {kh_80 : kt_D} (zh_80 : kt_Snd l kt_shM kb_M_put 10 RX7 (some .boolean) 3 0 0 false false 80 kh_80) : kt_Snd l kt_shM kb_M_put 10 RX7 (some .boolean) 3 0 0 false false 145 (kd_M_put_145 kh_80) :=
  sd_iload (pc := 145) (kt_tab_get kx_M_put 73 rfl) <|
  sd_iconst (pc := 147) (kt_tab_get kx_M_put 74 rfl) kc_i_3 <|
  sd_icmp_ne (pc := 148) (tgt := 156) (kt_tab_get kx_M_put 75 rfl) rfl (kz_M_put_156 zh_80) (kz_M_put_151 zh_80)
noncomputable def kd_M_put_141 (kh_80 : kt_D) : kt_D := ki_iload 3 <| (kd_M_put_173 kh_80)
theorem kz_M_put_141 {kh_80 : kt_D} (zh_80 : kt_Snd l kt_shM kb_M_put 10 RX7 (some .boolean) 3 0 0 false false 80 kh_80) : kt_Snd l kt_shM kb_M_put 10 RX7 (some .boolean) 3 0 0 false false 141 (kd_M_put_141 kh_80) :=
  sd_iload_n (pc := 141) (kt_tab_get kx_M_put 71 rfl) rfl <|
  sd_goto (pc := 142) (tgt := 173) (kt_tab_get kx_M_put 72 rfl) rfl (kz_M_put_173 zh_80)
noncomputable def kd_M_put_135 (kh_80 : kt_D) : kt_D := ki_iload 9 <| ki_push (.int 2) <| ki_icmp_ne (kd_M_put_145 kh_80) (kd_M_put_141 kh_80)
theorem kz_M_put_135 {kh_80 : kt_D} (zh_80 : kt_Snd l kt_shM kb_M_put 10 RX7 (some .boolean) 3 0 0 false false 80 kh_80) : kt_Snd l kt_shM kb_M_put 10 RX7 (some .boolean) 3 0 0 false false 135 (kd_M_put_135 kh_80) :=
  sd_iload (pc := 135) (kt_tab_get kx_M_put 68 rfl) <|
  sd_iconst (pc := 137) (kt_tab_get kx_M_put 69 rfl) kc_i_2 <|
  sd_icmp_ne (pc := 138) (tgt := 145) (kt_tab_get kx_M_put 70 rfl) rfl (kz_M_put_145 zh_80) (kz_M_put_141 zh_80)
noncomputable def kd_M_put_131 (kh_80 : kt_D) : kt_D := ki_iload 2 <| (kd_M_put_173 kh_80)
theorem kz_M_put_131 {kh_80 : kt_D} (zh_80 : kt_Snd l kt_shM kb_M_put 10 RX7 (some .boolean) 3 0 0 false false 80 kh_80) : kt_Snd l kt_shM kb_M_put 10 RX7 (some .boolean) 3 0 0 false false 131 (kd_M_put_131 kh_80) :=
  sd_iload_n (pc := 131) (kt_tab_get kx_M_put 66 rfl) rfl <|
  sd_goto (pc := 132) (tgt := 173) (kt_tab_get kx_M_put 67 rfl) rfl (kz_M_put_173 zh_80)
noncomputable def kd_M_put_125 (kh_80 : kt_D) : kt_D := ki_iload 9 <| ki_push (.int 1) <| ki_icmp_ne (kd_M_put_135 kh_80) (kd_M_put_131 kh_80)
theorem kz_M_put_125 {kh_80 : kt_D} (zh_80 : kt_Snd l kt_shM kb_M_put 10 RX7 (some .boolean) 3 0 0 false false 80 kh_80) : kt_Snd l kt_shM kb_M_put 10 RX7 (some .boolean) 3 0 0 false false 125 (kd_M_put_125 kh_80) :=
  sd_iload (pc := 125) (kt_tab_get kx_M_put 63 rfl) <|
  sd_iconst (pc := 127) (kt_tab_get kx_M_put 64 rfl) kc_i_1 <|
  sd_icmp_ne (pc := 128) (tgt := 135) (kt_tab_get kx_M_put 65 rfl) rfl (kz_M_put_135 zh_80) (kz_M_put_131 zh_80)
noncomputable def kd_M_put_113 (kh_80 : kt_D) : kt_D := ki_iload 1 <| ki_push (.int 16) <| ki_iload 8 <| ki_push (.int 1) <| ki_iadd <| ki_imul <| ki_iadd <| (kd_M_put_173 kh_80)
theorem kz_M_put_113 {kh_80 : kt_D} (zh_80 : kt_Snd l kt_shM kb_M_put 10 RX7 (some .boolean) 3 0 0 false false 80 kh_80) : kt_Snd l kt_shM kb_M_put 10 RX7 (some .boolean) 3 0 0 false false 113 (kd_M_put_113 kh_80) :=
  sd_iload_n (pc := 113) (kt_tab_get kx_M_put 55 rfl) rfl <|
  sd_bipush (pc := 114) (kt_tab_get kx_M_put 56 rfl) kc_b_16 <|
  sd_iload (pc := 116) (kt_tab_get kx_M_put 57 rfl) <|
  sd_iconst (pc := 118) (kt_tab_get kx_M_put 58 rfl) kc_i_1 <|
  sd_iadd (pc := 119) (kt_tab_get kx_M_put 59 rfl) <|
  sd_imul (pc := 120) (kt_tab_get kx_M_put 60 rfl) <|
  sd_iadd (pc := 121) (kt_tab_get kx_M_put 61 rfl) <|
  sd_goto (pc := 122) (tgt := 173) (kt_tab_get kx_M_put 62 rfl) rfl (kz_M_put_173 zh_80)
noncomputable def kd_M_put_96 (kh_80 : kt_D) : kt_D := ki_aload 0 <| ki_get kt_shM 7 1 <| ki_push (.int 6) <| ki_iload 7 <| ki_imul <| ki_iload 9 <| ki_iadd <| ki_iload 9 <| ki_if_ne (kd_M_put_125 kh_80) (kd_M_put_113 kh_80)
theorem kz_M_put_96 {kh_80 : kt_D} (zh_80 : kt_Snd l kt_shM kb_M_put 10 RX7 (some .boolean) 3 0 0 false false 80 kh_80) : kt_Snd l kt_shM kb_M_put 10 RX7 (some .boolean) 3 0 0 false false 96 (kd_M_put_96 kh_80) :=
  sd_aload_n (pc := 96) (kt_tab_get kx_M_put 46 rfl) rfl <|
  sd_get (pc := 97) (k := 1) (ci := 7) kt_hc7 kt_hin7 (by decide) (kt_tab_get kx_M_put 47 rfl) (kg_M_put_in _ (List.mem_of_getElem? (i := 7) rfl)) <|
  sd_bipush (pc := 100) (kt_tab_get kx_M_put 48 rfl) kc_b_6 <|
  sd_iload (pc := 102) (kt_tab_get kx_M_put 49 rfl) <|
  sd_imul (pc := 104) (kt_tab_get kx_M_put 50 rfl) <|
  sd_iload (pc := 105) (kt_tab_get kx_M_put 51 rfl) <|
  sd_iadd (pc := 107) (kt_tab_get kx_M_put 52 rfl) <|
  sd_iload (pc := 108) (kt_tab_get kx_M_put 53 rfl) <|
  sd_if_ne (pc := 110) (tgt := 125) (kt_tab_get kx_M_put 54 rfl) rfl (kz_M_put_125 zh_80) (kz_M_put_113 zh_80)
noncomputable def kd_M_put_94 : kt_D := ki_push (.int 0) <| ki_zret
theorem kz_M_put_94 : kt_Snd l kt_shM kb_M_put 10 RX7 (some .boolean) 3 0 0 false false 94 kd_M_put_94 :=
  sd_iconst (pc := 94) (kt_tab_get kx_M_put 44 rfl) kc_i_0 <|
  sd_zret (pc := 95) rfl (by decide) (kt_tab_get kx_M_put 45 rfl)
noncomputable def kd_M_put_87 (kh_80 : kt_D) : kt_D := ki_aload 0 <| ki_callV kt_shM 7 0 kf_M_mayWrite <| ki_if_ne (kd_M_put_96 kh_80) (ki_drop 9 (ki_drop 8 (ki_drop 7 (ki_drop 6 (ki_drop 5 (ki_drop 4 (ki_drop 3 (ki_drop 2 (ki_drop 1 (ki_drop 0 kd_M_put_94))))))))))
theorem kz_M_put_87 {kh_80 : kt_D} (zh_80 : kt_Snd l kt_shM kb_M_put 10 RX7 (some .boolean) 3 0 0 false false 80 kh_80) : kt_Snd l kt_shM kb_M_put 10 RX7 (some .boolean) 3 0 0 false false 87 (kd_M_put_87 kh_80) :=
  sd_aload_n (pc := 87) (kt_tab_get kx_M_put 41 rfl) rfl <|
  sd_callV (pc := 88) km_M_mayWrite (by decide) kv_M_mayWrite (ci := 7) kt_hc7 (by decide) (kt_tab_get kx_M_put 42 rfl) (kg_M_put_in _ (List.mem_of_getElem? (i := 5) rfl)) <|
  sd_if_ne (pc := 91) (tgt := 96) (kt_tab_get kx_M_put 43 rfl) rfl (kz_M_put_96 zh_80) (sd_drop (k := 9) (sd_drop (k := 8) (sd_drop (k := 7) (sd_drop (k := 6) (sd_drop (k := 5) (sd_drop (k := 4) (sd_drop (k := 3) (sd_drop (k := 2) (sd_drop (k := 1) (sd_drop (k := 0) kz_M_put_94))))))))))
noncomputable def kd_M_put_80b (kh_80 : kt_D) : kt_D := ki_iload 9 <| ki_push (.int 6) <| ki_icmp_ge (ki_drop 9 (ki_drop 8 (ki_drop 7 (ki_drop 5 (ki_drop 4 (ki_drop 3 (ki_drop 2 (ki_drop 1 kd_M_put_180)))))))) (kd_M_put_87 kh_80)
theorem kz_M_put_80b {kh_80 : kt_D} (zh_80 : kt_Snd l kt_shM kb_M_put 10 RX7 (some .boolean) 3 0 0 false false 80 kh_80) : kt_Snd l kt_shM kb_M_put 10 RX7 (some .boolean) 3 0 0 false false 80 (kd_M_put_80b kh_80) :=
  sd_iload (pc := 80) (kt_tab_get kx_M_put 38 rfl) <|
  sd_bipush (pc := 82) (kt_tab_get kx_M_put 39 rfl) kc_b_6 <|
  sd_icmp_ge (pc := 84) (tgt := 180) (kt_tab_get kx_M_put 40 rfl) rfl (sd_drop (k := 9) (sd_drop (k := 8) (sd_drop (k := 7) (sd_drop (k := 5) (sd_drop (k := 4) (sd_drop (k := 3) (sd_drop (k := 2) (sd_drop (k := 1) kz_M_put_180)))))))) (kz_M_put_87 zh_80)
noncomputable def kd_M_put_80 (n : Nat) : kt_D := Nat.rec (fun _ _ _ => none) (fun _ ih => kd_M_put_80b ih) n
theorem kz_M_put_80 (n : Nat) : kt_Snd l kt_shM kb_M_put 10 RX7 (some .boolean) 3 0 0 false false 80 (kd_M_put_80 n) := by
  induction n with
  | zero => exact sd_fail
  | succ n ih => exact kz_M_put_80b ih
noncomputable def kd_M_put_77 : kt_D := ki_push (.int 0) <| ki_istore 9 <| (kd_M_put_80 100)
theorem kz_M_put_77 : kt_Snd l kt_shM kb_M_put 10 RX7 (some .boolean) 3 0 0 false false 77 kd_M_put_77 :=
  sd_iconst (pc := 77) (kt_tab_get kx_M_put 36 rfl) kc_i_0 <|
  sd_istore (pc := 78) (kt_tab_get kx_M_put 37 rfl) (by decide) <|
  (kz_M_put_80 100)
noncomputable def kd_M_put_69 (kh_31 : kt_D) : kt_D := ki_istore 8 <| ki_iinc 9 1 <| kh_31
theorem kz_M_put_69 {kh_31 : kt_D} (zh_31 : kt_Snd l kt_shM kb_M_put 10 RX7 (some .boolean) 3 0 0 false false 31 kh_31) : kt_Snd l kt_shM kb_M_put 10 RX7 (some .boolean) 3 0 0 false false 69 (kd_M_put_69 kh_31) :=
  sd_istore (pc := 69) (kt_tab_get kx_M_put 33 rfl) (by decide) <|
  sd_iinc (pc := 71) (kt_tab_get kx_M_put 34 rfl) kc_i_1 (by decide) <|
  sd_goto (pc := 74) (tgt := 31) (kt_tab_get kx_M_put 35 rfl) rfl zh_31
noncomputable def kd_M_put_67 (kh_31 : kt_D) : kt_D := ki_iload 8 <| (ki_drop 8 (kd_M_put_69 kh_31))
theorem kz_M_put_67 {kh_31 : kt_D} (zh_31 : kt_Snd l kt_shM kb_M_put 10 RX7 (some .boolean) 3 0 0 false false 31 kh_31) : kt_Snd l kt_shM kb_M_put 10 RX7 (some .boolean) 3 0 0 false false 67 (kd_M_put_67 kh_31) :=
  sd_iload (pc := 67) (kt_tab_get kx_M_put 32 rfl) <|
  (sd_drop (k := 8) (kz_M_put_69 zh_31))
noncomputable def kd_M_put_58 (kh_31 : kt_D) : kt_D := ki_aload 0 <| ki_iload 9 <| ki_callV kt_shM 7 1 kf_M_serialOf <| (kd_M_put_69 kh_31)
theorem kz_M_put_58 {kh_31 : kt_D} (zh_31 : kt_Snd l kt_shM kb_M_put 10 RX7 (some .boolean) 3 0 0 false false 31 kh_31) : kt_Snd l kt_shM kb_M_put 10 RX7 (some .boolean) 3 0 0 false false 58 (kd_M_put_58 kh_31) :=
  sd_aload_n (pc := 58) (kt_tab_get kx_M_put 28 rfl) rfl <|
  sd_iload (pc := 59) (kt_tab_get kx_M_put 29 rfl) <|
  sd_callV (pc := 61) km_M_serialOf (by decide) kv_M_serialOf (ci := 7) kt_hc7 (by decide) (kt_tab_get kx_M_put 30 rfl) (kg_M_put_in _ (List.mem_of_getElem? (i := 8) rfl)) <|
  sd_goto (pc := 64) (tgt := 69) (kt_tab_get kx_M_put 31 rfl) rfl (kz_M_put_69 zh_31)
noncomputable def kd_M_put_47 (kh_31 : kt_D) : kt_D := ki_aload 0 <| ki_iload 9 <| ki_callV kt_shM 7 1 kf_M_serialOf <| ki_iload 8 <| ki_icmp_le (kd_M_put_67 kh_31) (ki_drop 8 (kd_M_put_58 kh_31))
theorem kz_M_put_47 {kh_31 : kt_D} (zh_31 : kt_Snd l kt_shM kb_M_put 10 RX7 (some .boolean) 3 0 0 false false 31 kh_31) : kt_Snd l kt_shM kb_M_put 10 RX7 (some .boolean) 3 0 0 false false 47 (kd_M_put_47 kh_31) :=
  sd_aload_n (pc := 47) (kt_tab_get kx_M_put 23 rfl) rfl <|
  sd_iload (pc := 48) (kt_tab_get kx_M_put 24 rfl) <|
  sd_callV (pc := 50) km_M_serialOf (by decide) kv_M_serialOf (ci := 7) kt_hc7 (by decide) (kt_tab_get kx_M_put 25 rfl) (kg_M_put_in _ (List.mem_of_getElem? (i := 8) rfl)) <|
  sd_iload (pc := 53) (kt_tab_get kx_M_put 26 rfl) <|
  sd_icmp_le (pc := 55) (tgt := 67) (kt_tab_get kx_M_put 27 rfl) rfl (kz_M_put_67 zh_31) (sd_drop (k := 8) (kz_M_put_58 zh_31))
noncomputable def kd_M_put_38 (kh_31 : kt_D) : kt_D := ki_aload 0 <| ki_iload 9 <| ki_callV kt_shM 7 1 kf_M_erased <| ki_if_ne (kd_M_put_67 kh_31) (kd_M_put_47 kh_31)
theorem kz_M_put_38 {kh_31 : kt_D} (zh_31 : kt_Snd l kt_shM kb_M_put 10 RX7 (some .boolean) 3 0 0 false false 31 kh_31) : kt_Snd l kt_shM kb_M_put 10 RX7 (some .boolean) 3 0 0 false false 38 (kd_M_put_38 kh_31) :=
  sd_aload_n (pc := 38) (kt_tab_get kx_M_put 19 rfl) rfl <|
  sd_iload (pc := 39) (kt_tab_get kx_M_put 20 rfl) <|
  sd_callV (pc := 41) km_M_erased (by decide) kv_M_erased (ci := 7) kt_hc7 (by decide) (kt_tab_get kx_M_put 21 rfl) (kg_M_put_in _ (List.mem_of_getElem? (i := 9) rfl)) <|
  sd_if_ne (pc := 44) (tgt := 67) (kt_tab_get kx_M_put 22 rfl) rfl (kz_M_put_67 zh_31) (kz_M_put_47 zh_31)
noncomputable def kd_M_put_31b (kh_31 : kt_D) : kt_D := ki_iload 9 <| ki_push (.int 7) <| ki_icmp_ge (ki_drop 9 kd_M_put_77) (kd_M_put_38 kh_31)
theorem kz_M_put_31b {kh_31 : kt_D} (zh_31 : kt_Snd l kt_shM kb_M_put 10 RX7 (some .boolean) 3 0 0 false false 31 kh_31) : kt_Snd l kt_shM kb_M_put 10 RX7 (some .boolean) 3 0 0 false false 31 (kd_M_put_31b kh_31) :=
  sd_iload (pc := 31) (kt_tab_get kx_M_put 16 rfl) <|
  sd_bipush (pc := 33) (kt_tab_get kx_M_put 17 rfl) kc_b_7 <|
  sd_icmp_ge (pc := 35) (tgt := 77) (kt_tab_get kx_M_put 18 rfl) rfl (sd_drop (k := 9) kz_M_put_77) (kz_M_put_38 zh_31)
noncomputable def kd_M_put_31 (n : Nat) : kt_D := Nat.rec (fun _ _ _ => none) (fun _ ih => kd_M_put_31b ih) n
theorem kz_M_put_31 (n : Nat) : kt_Snd l kt_shM kb_M_put 10 RX7 (some .boolean) 3 0 0 false false 31 (kd_M_put_31 n) := by
  induction n with
  | zero => exact sd_fail
  | succ n ih => exact kz_M_put_31b ih
noncomputable def kd_M_put_25 : kt_D := ki_push (.int 0) <| ki_istore 8 <| ki_push (.int 0) <| ki_istore 9 <| (kd_M_put_31 100)
theorem kz_M_put_25 : kt_Snd l kt_shM kb_M_put 10 RX7 (some .boolean) 3 0 0 false false 25 kd_M_put_25 :=
  sd_iconst (pc := 25) (kt_tab_get kx_M_put 12 rfl) kc_i_0 <|
  sd_istore (pc := 26) (kt_tab_get kx_M_put 13 rfl) (by decide) <|
  sd_iconst (pc := 28) (kt_tab_get kx_M_put 14 rfl) kc_i_0 <|
  sd_istore (pc := 29) (kt_tab_get kx_M_put 15 rfl) (by decide) <|
  (kz_M_put_31 100)
noncomputable def kd_M_put_19 (kh_10 : kt_D) : kt_D := ki_iinc 7 1 <| kh_10
theorem kz_M_put_19 {kh_10 : kt_D} (zh_10 : kt_Snd l kt_shM kb_M_put 10 RX7 (some .boolean) 3 0 0 false false 10 kh_10) : kt_Snd l kt_shM kb_M_put 10 RX7 (some .boolean) 3 0 0 false false 19 (kd_M_put_19 kh_10) :=
  sd_iinc (pc := 19) (kt_tab_get kx_M_put 10 rfl) kc_i_1 (by decide) <|
  sd_goto (pc := 22) (tgt := 10) (kt_tab_get kx_M_put 11 rfl) rfl zh_10
noncomputable def kd_M_put_10b (kh_10 : kt_D) : kt_D := ki_aload 0 <| ki_iload 7 <| ki_callV kt_shM 7 1 kf_M_erased <| ki_if_ne kd_M_put_25 (kd_M_put_19 kh_10)
theorem kz_M_put_10b {kh_10 : kt_D} (zh_10 : kt_Snd l kt_shM kb_M_put 10 RX7 (some .boolean) 3 0 0 false false 10 kh_10) : kt_Snd l kt_shM kb_M_put 10 RX7 (some .boolean) 3 0 0 false false 10 (kd_M_put_10b kh_10) :=
  sd_aload_n (pc := 10) (kt_tab_get kx_M_put 6 rfl) rfl <|
  sd_iload (pc := 11) (kt_tab_get kx_M_put 7 rfl) <|
  sd_callV (pc := 13) km_M_erased (by decide) kv_M_erased (ci := 7) kt_hc7 (by decide) (kt_tab_get kx_M_put 8 rfl) (kg_M_put_in _ (List.mem_of_getElem? (i := 9) rfl)) <|
  sd_if_ne (pc := 16) (tgt := 25) (kt_tab_get kx_M_put 9 rfl) rfl kz_M_put_25 (kz_M_put_19 zh_10)
noncomputable def kd_M_put_10 (n : Nat) : kt_D := Nat.rec (fun _ _ _ => none) (fun _ ih => kd_M_put_10b ih) n
theorem kz_M_put_10 (n : Nat) : kt_Snd l kt_shM kb_M_put 10 RX7 (some .boolean) 3 0 0 false false 10 (kd_M_put_10 n) := by
  induction n with
  | zero => exact sd_fail
  | succ n ih => exact kz_M_put_10b ih
noncomputable def kd_M_put_0 : kt_D := ki_aload 0 <| ki_iload 1 <| ki_callV kt_shM 7 1 kf_M_page <| ki_istore 6 <| ki_push (.int 0) <| ki_istore 7 <| (kd_M_put_10 100)
theorem kz_M_put_0 : kt_Snd l kt_shM kb_M_put 10 RX7 (some .boolean) 3 0 0 false false 0 kd_M_put_0 :=
  sd_aload_n (pc := 0) (kt_tab_get kx_M_put 0 rfl) rfl <|
  sd_iload_n (pc := 1) (kt_tab_get kx_M_put 1 rfl) rfl <|
  sd_callV (pc := 2) km_M_page (by decide) kv_M_page (ci := 7) kt_hc7 (by decide) (kt_tab_get kx_M_put 2 rfl) (kg_M_put_in _ (List.mem_of_getElem? (i := 10) rfl)) <|
  sd_istore (pc := 5) (kt_tab_get kx_M_put 3 rfl) (by decide) <|
  sd_iconst (pc := 7) (kt_tab_get kx_M_put 4 rfl) kc_i_0 <|
  sd_istore (pc := 8) (kt_tab_get kx_M_put 5 rfl) (by decide) <|
  (kz_M_put_10 100)
noncomputable def kf_M_put : kt_F := kt_run 10 kd_M_put_0
theorem km_M_put : kt_M l kt_shM ky_M_put kb_M_put 10 (some .boolean) 3 false kf_M_put := kt_method (by decide) rfl kz_M_put_0
noncomputable def kd_M_comeUp_177 : kt_D := ki_vret
theorem kz_M_comeUp_177 : kt_Snd l kt_shM kb_M_comeUp 5 RX7 none 1 0 0 false false 177 kd_M_comeUp_177 :=
  sd_vret (pc := 177) rfl (by decide) (kt_tab_get kx_M_comeUp 99 rfl)
noncomputable def kd_M_comeUp_171 (kh_11 : kt_D) : kt_D := ki_iinc 1 1 <| kh_11
theorem kz_M_comeUp_171 {kh_11 : kt_D} (zh_11 : kt_Snd l kt_shM kb_M_comeUp 5 RX7 none 1 0 0 false false 11 kh_11) : kt_Snd l kt_shM kb_M_comeUp 5 RX7 none 1 0 0 false false 171 (kd_M_comeUp_171 kh_11) :=
  sd_iinc (pc := 171) (kt_tab_get kx_M_comeUp 97 rfl) kc_i_1 (by decide) <|
  sd_goto (pc := 174) (tgt := 11) (kt_tab_get kx_M_comeUp 98 rfl) rfl zh_11
noncomputable def kd_M_comeUp_156 (kh_11 : kt_D) : kt_D := ki_aload 0 <| ki_iload 1 <| ki_callV kt_shM 7 1 kf_M_erase <| ki_aload 0 <| ki_dup <| ki_get kt_shM 7 2 <| ki_push (.int 1) <| ki_iadd <| ki_put kt_shM 7 2 0 <| (kd_M_comeUp_171 kh_11)
theorem kz_M_comeUp_156 {kh_11 : kt_D} (zh_11 : kt_Snd l kt_shM kb_M_comeUp 5 RX7 none 1 0 0 false false 11 kh_11) : kt_Snd l kt_shM kb_M_comeUp 5 RX7 none 1 0 0 false false 156 (kd_M_comeUp_156 kh_11) :=
  sd_aload_n (pc := 156) (kt_tab_get kx_M_comeUp 88 rfl) rfl <|
  sd_iload_n (pc := 157) (kt_tab_get kx_M_comeUp 89 rfl) rfl <|
  sd_callV (pc := 158) km_M_erase (by decide) kv_M_erase (ci := 7) kt_hc7 (by decide) (kt_tab_get kx_M_comeUp 90 rfl) (kg_M_comeUp_in _ (List.mem_of_getElem? (i := 4) rfl)) <|
  sd_aload_n (pc := 161) (kt_tab_get kx_M_comeUp 91 rfl) rfl <|
  sd_dup (pc := 162) (kt_tab_get kx_M_comeUp 92 rfl) <|
  sd_get (pc := 163) (k := 2) (ci := 7) kt_hc7 kt_hin7 (by decide) (kt_tab_get kx_M_comeUp 93 rfl) (kg_M_comeUp_in _ (List.mem_of_getElem? (i := 5) rfl)) <|
  sd_iconst (pc := 166) (kt_tab_get kx_M_comeUp 94 rfl) kc_i_1 <|
  sd_iadd (pc := 167) (kt_tab_get kx_M_comeUp 95 rfl) <|
  sd_put (pc := 168) (k := 2) (ci := 7) kt_hc7 kt_hin7 tyX7_ok nmX7 (by decide) rfl rfl (Or.inl ⟨rfl, rfl⟩) (kt_tab_get kx_M_comeUp 96 rfl) (kg_M_comeUp_in _ (List.mem_of_getElem? (i := 5) rfl)) <|
  (kz_M_comeUp_171 zh_11)
noncomputable def kd_M_comeUp_152 (kh_11 : kt_D) : kt_D := ki_iload 2 <| ki_if_eq (ki_drop 2 (kd_M_comeUp_171 kh_11)) (ki_drop 2 (kd_M_comeUp_156 kh_11))
theorem kz_M_comeUp_152 {kh_11 : kt_D} (zh_11 : kt_Snd l kt_shM kb_M_comeUp 5 RX7 none 1 0 0 false false 11 kh_11) : kt_Snd l kt_shM kb_M_comeUp 5 RX7 none 1 0 0 false false 152 (kd_M_comeUp_152 kh_11) :=
  sd_iload_n (pc := 152) (kt_tab_get kx_M_comeUp 86 rfl) rfl <|
  sd_if_eq (pc := 153) (tgt := 171) (kt_tab_get kx_M_comeUp 87 rfl) rfl (sd_drop (k := 2) (kz_M_comeUp_171 zh_11)) (sd_drop (k := 2) (kz_M_comeUp_156 zh_11))
noncomputable def kd_M_comeUp_145 (kh_11 : kt_D) (kh_52 : kt_D) : kt_D := ki_istore 2 <| ki_iinc 3 1 <| kh_52
theorem kz_M_comeUp_145 {kh_11 : kt_D} (zh_11 : kt_Snd l kt_shM kb_M_comeUp 5 RX7 none 1 0 0 false false 11 kh_11) {kh_52 : kt_D} (zh_52 : kt_Snd l kt_shM kb_M_comeUp 5 RX7 none 1 0 0 false false 52 kh_52) : kt_Snd l kt_shM kb_M_comeUp 5 RX7 none 1 0 0 false false 145 (kd_M_comeUp_145 kh_11 kh_52) :=
  sd_istore_n (pc := 145) (kt_tab_get kx_M_comeUp 83 rfl) rfl (by decide) <|
  sd_iinc (pc := 146) (kt_tab_get kx_M_comeUp 84 rfl) kc_i_1 (by decide) <|
  sd_goto (pc := 149) (tgt := 52) (kt_tab_get kx_M_comeUp 85 rfl) rfl zh_52
noncomputable def kd_M_comeUp_144 (kh_11 : kt_D) (kh_52 : kt_D) : kt_D := ki_push (.int 0) <| (kd_M_comeUp_145 kh_11 kh_52)
theorem kz_M_comeUp_144 {kh_11 : kt_D} (zh_11 : kt_Snd l kt_shM kb_M_comeUp 5 RX7 none 1 0 0 false false 11 kh_11) {kh_52 : kt_D} (zh_52 : kt_Snd l kt_shM kb_M_comeUp 5 RX7 none 1 0 0 false false 52 kh_52) : kt_Snd l kt_shM kb_M_comeUp 5 RX7 none 1 0 0 false false 144 (kd_M_comeUp_144 kh_11 kh_52) :=
  sd_iconst (pc := 144) (kt_tab_get kx_M_comeUp 82 rfl) kc_i_0 <|
  (kz_M_comeUp_145 zh_11 zh_52)
noncomputable def kd_M_comeUp_140 (kh_11 : kt_D) (kh_52 : kt_D) : kt_D := ki_push (.int 1) <| (kd_M_comeUp_145 kh_11 kh_52)
theorem kz_M_comeUp_140 {kh_11 : kt_D} (zh_11 : kt_Snd l kt_shM kb_M_comeUp 5 RX7 none 1 0 0 false false 11 kh_11) {kh_52 : kt_D} (zh_52 : kt_Snd l kt_shM kb_M_comeUp 5 RX7 none 1 0 0 false false 52 kh_52) : kt_Snd l kt_shM kb_M_comeUp 5 RX7 none 1 0 0 false false 140 (kd_M_comeUp_140 kh_11 kh_52) :=
  sd_iconst (pc := 140) (kt_tab_get kx_M_comeUp 80 rfl) kc_i_1 <|
  sd_goto (pc := 141) (tgt := 145) (kt_tab_get kx_M_comeUp 81 rfl) rfl (kz_M_comeUp_145 zh_11 zh_52)
noncomputable def kd_M_comeUp_127 (kh_11 : kt_D) (kh_52 : kt_D) : kt_D := ki_aload 0 <| ki_iload 3 <| ki_callV kt_shM 7 1 kf_M_serialOf <| ki_aload 0 <| ki_iload 1 <| ki_callV kt_shM 7 1 kf_M_serialOf <| ki_icmp_le (kd_M_comeUp_144 kh_11 kh_52) (kd_M_comeUp_140 kh_11 kh_52)
theorem kz_M_comeUp_127 {kh_11 : kt_D} (zh_11 : kt_Snd l kt_shM kb_M_comeUp 5 RX7 none 1 0 0 false false 11 kh_11) {kh_52 : kt_D} (zh_52 : kt_Snd l kt_shM kb_M_comeUp 5 RX7 none 1 0 0 false false 52 kh_52) : kt_Snd l kt_shM kb_M_comeUp 5 RX7 none 1 0 0 false false 127 (kd_M_comeUp_127 kh_11 kh_52) :=
  sd_aload_n (pc := 127) (kt_tab_get kx_M_comeUp 73 rfl) rfl <|
  sd_iload_n (pc := 128) (kt_tab_get kx_M_comeUp 74 rfl) rfl <|
  sd_callV (pc := 129) km_M_serialOf (by decide) kv_M_serialOf (ci := 7) kt_hc7 (by decide) (kt_tab_get kx_M_comeUp 75 rfl) (kg_M_comeUp_in _ (List.mem_of_getElem? (i := 6) rfl)) <|
  sd_aload_n (pc := 132) (kt_tab_get kx_M_comeUp 76 rfl) rfl <|
  sd_iload_n (pc := 133) (kt_tab_get kx_M_comeUp 77 rfl) rfl <|
  sd_callV (pc := 134) km_M_serialOf (by decide) kv_M_serialOf (ci := 7) kt_hc7 (by decide) (kt_tab_get kx_M_comeUp 78 rfl) (kg_M_comeUp_in _ (List.mem_of_getElem? (i := 6) rfl)) <|
  sd_icmp_le (pc := 137) (tgt := 144) (kt_tab_get kx_M_comeUp 79 rfl) rfl (kz_M_comeUp_144 zh_11 zh_52) (kz_M_comeUp_140 zh_11 zh_52)
noncomputable def kd_M_comeUp_114 (kh_11 : kt_D) (kh_52 : kt_D) : kt_D := ki_aload 0 <| ki_iload 3 <| ki_callV kt_shM 7 1 kf_M_nameOf <| ki_aload 0 <| ki_iload 1 <| ki_callV kt_shM 7 1 kf_M_nameOf <| ki_icmp_ne (kd_M_comeUp_144 kh_11 kh_52) (kd_M_comeUp_127 kh_11 kh_52)
theorem kz_M_comeUp_114 {kh_11 : kt_D} (zh_11 : kt_Snd l kt_shM kb_M_comeUp 5 RX7 none 1 0 0 false false 11 kh_11) {kh_52 : kt_D} (zh_52 : kt_Snd l kt_shM kb_M_comeUp 5 RX7 none 1 0 0 false false 52 kh_52) : kt_Snd l kt_shM kb_M_comeUp 5 RX7 none 1 0 0 false false 114 (kd_M_comeUp_114 kh_11 kh_52) :=
  sd_aload_n (pc := 114) (kt_tab_get kx_M_comeUp 66 rfl) rfl <|
  sd_iload_n (pc := 115) (kt_tab_get kx_M_comeUp 67 rfl) rfl <|
  sd_callV (pc := 116) km_M_nameOf (by decide) kv_M_nameOf (ci := 7) kt_hc7 (by decide) (kt_tab_get kx_M_comeUp 68 rfl) (kg_M_comeUp_in _ (List.mem_of_getElem? (i := 7) rfl)) <|
  sd_aload_n (pc := 119) (kt_tab_get kx_M_comeUp 69 rfl) rfl <|
  sd_iload_n (pc := 120) (kt_tab_get kx_M_comeUp 70 rfl) rfl <|
  sd_callV (pc := 121) km_M_nameOf (by decide) kv_M_nameOf (ci := 7) kt_hc7 (by decide) (kt_tab_get kx_M_comeUp 71 rfl) (kg_M_comeUp_in _ (List.mem_of_getElem? (i := 7) rfl)) <|
  sd_icmp_ne (pc := 124) (tgt := 144) (kt_tab_get kx_M_comeUp 72 rfl) rfl (kz_M_comeUp_144 zh_11 zh_52) (kz_M_comeUp_127 zh_11 zh_52)
noncomputable def kd_M_comeUp_107 (kh_11 : kt_D) (kh_52 : kt_D) : kt_D := ki_istore 4 <| ki_iload 4 <| ki_if_eq (ki_drop 4 (kd_M_comeUp_144 kh_11 kh_52)) (ki_drop 4 (kd_M_comeUp_114 kh_11 kh_52))
theorem kz_M_comeUp_107 {kh_11 : kt_D} (zh_11 : kt_Snd l kt_shM kb_M_comeUp 5 RX7 none 1 0 0 false false 11 kh_11) {kh_52 : kt_D} (zh_52 : kt_Snd l kt_shM kb_M_comeUp 5 RX7 none 1 0 0 false false 52 kh_52) : kt_Snd l kt_shM kb_M_comeUp 5 RX7 none 1 0 0 false false 107 (kd_M_comeUp_107 kh_11 kh_52) :=
  sd_istore (pc := 107) (kt_tab_get kx_M_comeUp 63 rfl) (by decide) <|
  sd_iload (pc := 109) (kt_tab_get kx_M_comeUp 64 rfl) <|
  sd_if_eq (pc := 111) (tgt := 144) (kt_tab_get kx_M_comeUp 65 rfl) rfl (sd_drop (k := 4) (kz_M_comeUp_144 zh_11 zh_52)) (sd_drop (k := 4) (kz_M_comeUp_114 zh_11 zh_52))
noncomputable def kd_M_comeUp_106 (kh_11 : kt_D) (kh_52 : kt_D) : kt_D := ki_push (.int 0) <| (kd_M_comeUp_107 kh_11 kh_52)
theorem kz_M_comeUp_106 {kh_11 : kt_D} (zh_11 : kt_Snd l kt_shM kb_M_comeUp 5 RX7 none 1 0 0 false false 11 kh_11) {kh_52 : kt_D} (zh_52 : kt_Snd l kt_shM kb_M_comeUp 5 RX7 none 1 0 0 false false 52 kh_52) : kt_Snd l kt_shM kb_M_comeUp 5 RX7 none 1 0 0 false false 106 (kd_M_comeUp_106 kh_11 kh_52) :=
  sd_iconst (pc := 106) (kt_tab_get kx_M_comeUp 62 rfl) kc_i_0 <|
  (kz_M_comeUp_107 zh_11 zh_52)
noncomputable def kd_M_comeUp_102 (kh_11 : kt_D) (kh_52 : kt_D) : kt_D := ki_push (.int 1) <| (kd_M_comeUp_107 kh_11 kh_52)
theorem kz_M_comeUp_102 {kh_11 : kt_D} (zh_11 : kt_Snd l kt_shM kb_M_comeUp 5 RX7 none 1 0 0 false false 11 kh_11) {kh_52 : kt_D} (zh_52 : kt_Snd l kt_shM kb_M_comeUp 5 RX7 none 1 0 0 false false 52 kh_52) : kt_Snd l kt_shM kb_M_comeUp 5 RX7 none 1 0 0 false false 102 (kd_M_comeUp_102 kh_11 kh_52) :=
  sd_iconst (pc := 102) (kt_tab_get kx_M_comeUp 60 rfl) kc_i_1 <|
  sd_goto (pc := 103) (tgt := 107) (kt_tab_get kx_M_comeUp 61 rfl) rfl (kz_M_comeUp_107 zh_11 zh_52)
noncomputable def kd_M_comeUp_83 (kh_11 : kt_D) (kh_52 : kt_D) : kt_D := ki_aload 0 <| ki_get kt_shM 7 1 <| ki_push (.int 6) <| ki_iload 3 <| ki_imul <| ki_push (.int 5) <| ki_iadd <| ki_iald kt_shM <| ki_aload 0 <| ki_iload 3 <| ki_callV kt_shM 7 1 kf_M_seal <| ki_icmp_ne (kd_M_comeUp_106 kh_11 kh_52) (kd_M_comeUp_102 kh_11 kh_52)
theorem kz_M_comeUp_83 {kh_11 : kt_D} (zh_11 : kt_Snd l kt_shM kb_M_comeUp 5 RX7 none 1 0 0 false false 11 kh_11) {kh_52 : kt_D} (zh_52 : kt_Snd l kt_shM kb_M_comeUp 5 RX7 none 1 0 0 false false 52 kh_52) : kt_Snd l kt_shM kb_M_comeUp 5 RX7 none 1 0 0 false false 83 (kd_M_comeUp_83 kh_11 kh_52) :=
  sd_aload_n (pc := 83) (kt_tab_get kx_M_comeUp 48 rfl) rfl <|
  sd_get (pc := 84) (k := 1) (ci := 7) kt_hc7 kt_hin7 (by decide) (kt_tab_get kx_M_comeUp 49 rfl) (kg_M_comeUp_in _ (List.mem_of_getElem? (i := 8) rfl)) <|
  sd_bipush (pc := 87) (kt_tab_get kx_M_comeUp 50 rfl) kc_b_6 <|
  sd_iload_n (pc := 89) (kt_tab_get kx_M_comeUp 51 rfl) rfl <|
  sd_imul (pc := 90) (kt_tab_get kx_M_comeUp 52 rfl) <|
  sd_iconst (pc := 91) (kt_tab_get kx_M_comeUp 53 rfl) kc_i_5 <|
  sd_iadd (pc := 92) (kt_tab_get kx_M_comeUp 54 rfl) <|
  sd_iald (pc := 93) (kt_tab_get kx_M_comeUp 55 rfl) <|
  sd_aload_n (pc := 94) (kt_tab_get kx_M_comeUp 56 rfl) rfl <|
  sd_iload_n (pc := 95) (kt_tab_get kx_M_comeUp 57 rfl) rfl <|
  sd_callV (pc := 96) km_M_seal (by decide) kv_M_seal (ci := 7) kt_hc7 (by decide) (kt_tab_get kx_M_comeUp 58 rfl) (kg_M_comeUp_in _ (List.mem_of_getElem? (i := 9) rfl)) <|
  sd_icmp_ne (pc := 99) (tgt := 106) (kt_tab_get kx_M_comeUp 59 rfl) rfl (kz_M_comeUp_106 zh_11 zh_52) (kz_M_comeUp_102 zh_11 zh_52)
noncomputable def kd_M_comeUp_75 (kh_11 : kt_D) (kh_52 : kt_D) : kt_D := ki_aload 0 <| ki_iload 3 <| ki_callV kt_shM 7 1 kf_M_erased <| ki_if_ne (kd_M_comeUp_106 kh_11 kh_52) (kd_M_comeUp_83 kh_11 kh_52)
theorem kz_M_comeUp_75 {kh_11 : kt_D} (zh_11 : kt_Snd l kt_shM kb_M_comeUp 5 RX7 none 1 0 0 false false 11 kh_11) {kh_52 : kt_D} (zh_52 : kt_Snd l kt_shM kb_M_comeUp 5 RX7 none 1 0 0 false false 52 kh_52) : kt_Snd l kt_shM kb_M_comeUp 5 RX7 none 1 0 0 false false 75 (kd_M_comeUp_75 kh_11 kh_52) :=
  sd_aload_n (pc := 75) (kt_tab_get kx_M_comeUp 44 rfl) rfl <|
  sd_iload_n (pc := 76) (kt_tab_get kx_M_comeUp 45 rfl) rfl <|
  sd_callV (pc := 77) km_M_erased (by decide) kv_M_erased (ci := 7) kt_hc7 (by decide) (kt_tab_get kx_M_comeUp 46 rfl) (kg_M_comeUp_in _ (List.mem_of_getElem? (i := 10) rfl)) <|
  sd_if_ne (pc := 80) (tgt := 106) (kt_tab_get kx_M_comeUp 47 rfl) rfl (kz_M_comeUp_106 zh_11 zh_52) (kz_M_comeUp_83 zh_11 zh_52)
noncomputable def kd_M_comeUp_70 (kh_11 : kt_D) (kh_52 : kt_D) : kt_D := ki_iload 3 <| ki_iload 1 <| ki_icmp_eq (kd_M_comeUp_106 kh_11 kh_52) (kd_M_comeUp_75 kh_11 kh_52)
theorem kz_M_comeUp_70 {kh_11 : kt_D} (zh_11 : kt_Snd l kt_shM kb_M_comeUp 5 RX7 none 1 0 0 false false 11 kh_11) {kh_52 : kt_D} (zh_52 : kt_Snd l kt_shM kb_M_comeUp 5 RX7 none 1 0 0 false false 52 kh_52) : kt_Snd l kt_shM kb_M_comeUp 5 RX7 none 1 0 0 false false 70 (kd_M_comeUp_70 kh_11 kh_52) :=
  sd_iload_n (pc := 70) (kt_tab_get kx_M_comeUp 41 rfl) rfl <|
  sd_iload_n (pc := 71) (kt_tab_get kx_M_comeUp 42 rfl) rfl <|
  sd_icmp_eq (pc := 72) (tgt := 106) (kt_tab_get kx_M_comeUp 43 rfl) rfl (kz_M_comeUp_106 zh_11 zh_52) (kz_M_comeUp_75 zh_11 zh_52)
noncomputable def kd_M_comeUp_62 (kh_11 : kt_D) (kh_52 : kt_D) : kt_D := ki_aload 0 <| ki_iload 1 <| ki_callV kt_shM 7 1 kf_M_erased <| ki_if_ne (ki_drop 3 (kd_M_comeUp_152 kh_11)) (ki_drop 2 (kd_M_comeUp_70 kh_11 kh_52))
theorem kz_M_comeUp_62 {kh_11 : kt_D} (zh_11 : kt_Snd l kt_shM kb_M_comeUp 5 RX7 none 1 0 0 false false 11 kh_11) {kh_52 : kt_D} (zh_52 : kt_Snd l kt_shM kb_M_comeUp 5 RX7 none 1 0 0 false false 52 kh_52) : kt_Snd l kt_shM kb_M_comeUp 5 RX7 none 1 0 0 false false 62 (kd_M_comeUp_62 kh_11 kh_52) :=
  sd_aload_n (pc := 62) (kt_tab_get kx_M_comeUp 37 rfl) rfl <|
  sd_iload_n (pc := 63) (kt_tab_get kx_M_comeUp 38 rfl) rfl <|
  sd_callV (pc := 64) km_M_erased (by decide) kv_M_erased (ci := 7) kt_hc7 (by decide) (kt_tab_get kx_M_comeUp 39 rfl) (kg_M_comeUp_in _ (List.mem_of_getElem? (i := 10) rfl)) <|
  sd_if_ne (pc := 67) (tgt := 152) (kt_tab_get kx_M_comeUp 40 rfl) rfl (sd_drop (k := 3) (kz_M_comeUp_152 zh_11)) (sd_drop (k := 2) (kz_M_comeUp_70 zh_11 zh_52))
noncomputable def kd_M_comeUp_58 (kh_11 : kt_D) (kh_52 : kt_D) : kt_D := ki_iload 2 <| ki_if_ne (ki_drop 3 (kd_M_comeUp_152 kh_11)) (kd_M_comeUp_62 kh_11 kh_52)
theorem kz_M_comeUp_58 {kh_11 : kt_D} (zh_11 : kt_Snd l kt_shM kb_M_comeUp 5 RX7 none 1 0 0 false false 11 kh_11) {kh_52 : kt_D} (zh_52 : kt_Snd l kt_shM kb_M_comeUp 5 RX7 none 1 0 0 false false 52 kh_52) : kt_Snd l kt_shM kb_M_comeUp 5 RX7 none 1 0 0 false false 58 (kd_M_comeUp_58 kh_11 kh_52) :=
  sd_iload_n (pc := 58) (kt_tab_get kx_M_comeUp 35 rfl) rfl <|
  sd_if_ne (pc := 59) (tgt := 152) (kt_tab_get kx_M_comeUp 36 rfl) rfl (sd_drop (k := 3) (kz_M_comeUp_152 zh_11)) (kz_M_comeUp_62 zh_11 zh_52)
noncomputable def kd_M_comeUp_52b (kh_11 : kt_D) (kh_52 : kt_D) : kt_D := ki_iload 3 <| ki_push (.int 7) <| ki_icmp_ge (ki_drop 3 (kd_M_comeUp_152 kh_11)) (kd_M_comeUp_58 kh_11 kh_52)
theorem kz_M_comeUp_52b {kh_11 : kt_D} (zh_11 : kt_Snd l kt_shM kb_M_comeUp 5 RX7 none 1 0 0 false false 11 kh_11) {kh_52 : kt_D} (zh_52 : kt_Snd l kt_shM kb_M_comeUp 5 RX7 none 1 0 0 false false 52 kh_52) : kt_Snd l kt_shM kb_M_comeUp 5 RX7 none 1 0 0 false false 52 (kd_M_comeUp_52b kh_11 kh_52) :=
  sd_iload_n (pc := 52) (kt_tab_get kx_M_comeUp 32 rfl) rfl <|
  sd_bipush (pc := 53) (kt_tab_get kx_M_comeUp 33 rfl) kc_b_7 <|
  sd_icmp_ge (pc := 55) (tgt := 152) (kt_tab_get kx_M_comeUp 34 rfl) rfl (sd_drop (k := 3) (kz_M_comeUp_152 zh_11)) (kz_M_comeUp_58 zh_11 zh_52)
noncomputable def kd_M_comeUp_52 (kh_11 : kt_D) (n : Nat) : kt_D := Nat.rec (fun _ _ _ => none) (fun _ ih => kd_M_comeUp_52b kh_11 ih) n
theorem kz_M_comeUp_52 {kh_11 : kt_D} (zh_11 : kt_Snd l kt_shM kb_M_comeUp 5 RX7 none 1 0 0 false false 11 kh_11) (n : Nat) : kt_Snd l kt_shM kb_M_comeUp 5 RX7 none 1 0 0 false false 52 (kd_M_comeUp_52 kh_11 n) := by
  induction n with
  | zero => exact sd_fail
  | succ n ih => exact kz_M_comeUp_52b zh_11 ih
noncomputable def kd_M_comeUp_49 (kh_11 : kt_D) : kt_D := ki_istore 2 <| ki_push (.int 0) <| ki_istore 3 <| (kd_M_comeUp_52 kh_11 100)
theorem kz_M_comeUp_49 {kh_11 : kt_D} (zh_11 : kt_Snd l kt_shM kb_M_comeUp 5 RX7 none 1 0 0 false false 11 kh_11) : kt_Snd l kt_shM kb_M_comeUp 5 RX7 none 1 0 0 false false 49 (kd_M_comeUp_49 kh_11) :=
  sd_istore_n (pc := 49) (kt_tab_get kx_M_comeUp 29 rfl) rfl (by decide) <|
  sd_iconst (pc := 50) (kt_tab_get kx_M_comeUp 30 rfl) kc_i_0 <|
  sd_istore_n (pc := 51) (kt_tab_get kx_M_comeUp 31 rfl) rfl (by decide) <|
  (kz_M_comeUp_52 zh_11 100)
noncomputable def kd_M_comeUp_48 (kh_11 : kt_D) : kt_D := ki_push (.int 0) <| (kd_M_comeUp_49 kh_11)
theorem kz_M_comeUp_48 {kh_11 : kt_D} (zh_11 : kt_Snd l kt_shM kb_M_comeUp 5 RX7 none 1 0 0 false false 11 kh_11) : kt_Snd l kt_shM kb_M_comeUp 5 RX7 none 1 0 0 false false 48 (kd_M_comeUp_48 kh_11) :=
  sd_iconst (pc := 48) (kt_tab_get kx_M_comeUp 28 rfl) kc_i_0 <|
  (kz_M_comeUp_49 zh_11)
noncomputable def kd_M_comeUp_44 (kh_11 : kt_D) : kt_D := ki_push (.int 1) <| (kd_M_comeUp_49 kh_11)
theorem kz_M_comeUp_44 {kh_11 : kt_D} (zh_11 : kt_Snd l kt_shM kb_M_comeUp 5 RX7 none 1 0 0 false false 11 kh_11) : kt_Snd l kt_shM kb_M_comeUp 5 RX7 none 1 0 0 false false 44 (kd_M_comeUp_44 kh_11) :=
  sd_iconst (pc := 44) (kt_tab_get kx_M_comeUp 26 rfl) kc_i_1 <|
  sd_goto (pc := 45) (tgt := 49) (kt_tab_get kx_M_comeUp 27 rfl) rfl (kz_M_comeUp_49 zh_11)
noncomputable def kd_M_comeUp_25 (kh_11 : kt_D) : kt_D := ki_aload 0 <| ki_get kt_shM 7 1 <| ki_push (.int 6) <| ki_iload 1 <| ki_imul <| ki_push (.int 5) <| ki_iadd <| ki_iald kt_shM <| ki_aload 0 <| ki_iload 1 <| ki_callV kt_shM 7 1 kf_M_seal <| ki_icmp_eq (kd_M_comeUp_48 kh_11) (kd_M_comeUp_44 kh_11)
theorem kz_M_comeUp_25 {kh_11 : kt_D} (zh_11 : kt_Snd l kt_shM kb_M_comeUp 5 RX7 none 1 0 0 false false 11 kh_11) : kt_Snd l kt_shM kb_M_comeUp 5 RX7 none 1 0 0 false false 25 (kd_M_comeUp_25 kh_11) :=
  sd_aload_n (pc := 25) (kt_tab_get kx_M_comeUp 14 rfl) rfl <|
  sd_get (pc := 26) (k := 1) (ci := 7) kt_hc7 kt_hin7 (by decide) (kt_tab_get kx_M_comeUp 15 rfl) (kg_M_comeUp_in _ (List.mem_of_getElem? (i := 8) rfl)) <|
  sd_bipush (pc := 29) (kt_tab_get kx_M_comeUp 16 rfl) kc_b_6 <|
  sd_iload_n (pc := 31) (kt_tab_get kx_M_comeUp 17 rfl) rfl <|
  sd_imul (pc := 32) (kt_tab_get kx_M_comeUp 18 rfl) <|
  sd_iconst (pc := 33) (kt_tab_get kx_M_comeUp 19 rfl) kc_i_5 <|
  sd_iadd (pc := 34) (kt_tab_get kx_M_comeUp 20 rfl) <|
  sd_iald (pc := 35) (kt_tab_get kx_M_comeUp 21 rfl) <|
  sd_aload_n (pc := 36) (kt_tab_get kx_M_comeUp 22 rfl) rfl <|
  sd_iload_n (pc := 37) (kt_tab_get kx_M_comeUp 23 rfl) rfl <|
  sd_callV (pc := 38) km_M_seal (by decide) kv_M_seal (ci := 7) kt_hc7 (by decide) (kt_tab_get kx_M_comeUp 24 rfl) (kg_M_comeUp_in _ (List.mem_of_getElem? (i := 9) rfl)) <|
  sd_icmp_eq (pc := 41) (tgt := 48) (kt_tab_get kx_M_comeUp 25 rfl) rfl (kz_M_comeUp_48 zh_11) (kz_M_comeUp_44 zh_11)
noncomputable def kd_M_comeUp_17 (kh_11 : kt_D) : kt_D := ki_aload 0 <| ki_iload 1 <| ki_callV kt_shM 7 1 kf_M_erased <| ki_if_ne (kd_M_comeUp_48 kh_11) (kd_M_comeUp_25 kh_11)
theorem kz_M_comeUp_17 {kh_11 : kt_D} (zh_11 : kt_Snd l kt_shM kb_M_comeUp 5 RX7 none 1 0 0 false false 11 kh_11) : kt_Snd l kt_shM kb_M_comeUp 5 RX7 none 1 0 0 false false 17 (kd_M_comeUp_17 kh_11) :=
  sd_aload_n (pc := 17) (kt_tab_get kx_M_comeUp 10 rfl) rfl <|
  sd_iload_n (pc := 18) (kt_tab_get kx_M_comeUp 11 rfl) rfl <|
  sd_callV (pc := 19) km_M_erased (by decide) kv_M_erased (ci := 7) kt_hc7 (by decide) (kt_tab_get kx_M_comeUp 12 rfl) (kg_M_comeUp_in _ (List.mem_of_getElem? (i := 10) rfl)) <|
  sd_if_ne (pc := 22) (tgt := 48) (kt_tab_get kx_M_comeUp 13 rfl) rfl (kz_M_comeUp_48 zh_11) (kz_M_comeUp_25 zh_11)
noncomputable def kd_M_comeUp_11b (kh_11 : kt_D) : kt_D := ki_iload 1 <| ki_push (.int 7) <| ki_icmp_ge (ki_drop 1 (ki_drop 0 kd_M_comeUp_177)) (kd_M_comeUp_17 kh_11)
theorem kz_M_comeUp_11b {kh_11 : kt_D} (zh_11 : kt_Snd l kt_shM kb_M_comeUp 5 RX7 none 1 0 0 false false 11 kh_11) : kt_Snd l kt_shM kb_M_comeUp 5 RX7 none 1 0 0 false false 11 (kd_M_comeUp_11b kh_11) :=
  sd_iload_n (pc := 11) (kt_tab_get kx_M_comeUp 7 rfl) rfl <|
  sd_bipush (pc := 12) (kt_tab_get kx_M_comeUp 8 rfl) kc_b_7 <|
  sd_icmp_ge (pc := 14) (tgt := 177) (kt_tab_get kx_M_comeUp 9 rfl) rfl (sd_drop (k := 1) (sd_drop (k := 0) kz_M_comeUp_177)) (kz_M_comeUp_17 zh_11)
noncomputable def kd_M_comeUp_11 (n : Nat) : kt_D := Nat.rec (fun _ _ _ => none) (fun _ ih => kd_M_comeUp_11b ih) n
theorem kz_M_comeUp_11 (n : Nat) : kt_Snd l kt_shM kb_M_comeUp 5 RX7 none 1 0 0 false false 11 (kd_M_comeUp_11 n) := by
  induction n with
  | zero => exact sd_fail
  | succ n ih => exact kz_M_comeUp_11b ih
noncomputable def kd_M_comeUp_0 : kt_D := ki_aload 0 <| ki_push (.int 1) <| ki_put kt_shM 7 5 1 <| ki_aload 0 <| ki_callV kt_shM 7 0 kf_M_empty <| ki_push (.int 0) <| ki_istore 1 <| (kd_M_comeUp_11 100)
theorem kz_M_comeUp_0 : kt_Snd l kt_shM kb_M_comeUp 5 RX7 none 1 0 0 false false 0 kd_M_comeUp_0 :=
  sd_aload_n (pc := 0) (kt_tab_get kx_M_comeUp 0 rfl) rfl <|
  sd_iconst (pc := 1) (kt_tab_get kx_M_comeUp 1 rfl) kc_i_1 <|
  sd_put (pc := 2) (k := 5) (ci := 7) kt_hc7 kt_hin7 tyX7_ok nmX7 (by decide) rfl rfl (Or.inr ⟨rfl, rfl⟩) (kt_tab_get kx_M_comeUp 2 rfl) (kg_M_comeUp_in _ (List.mem_of_getElem? (i := 11) rfl)) <|
  sd_aload_n (pc := 5) (kt_tab_get kx_M_comeUp 3 rfl) rfl <|
  sd_callV (pc := 6) km_M_empty (by decide) kv_M_empty (ci := 7) kt_hc7 (by decide) (kt_tab_get kx_M_comeUp 4 rfl) (kg_M_comeUp_in _ (List.mem_of_getElem? (i := 12) rfl)) <|
  sd_iconst (pc := 9) (kt_tab_get kx_M_comeUp 5 rfl) kc_i_0 <|
  sd_istore_n (pc := 10) (kt_tab_get kx_M_comeUp 6 rfl) rfl (by decide) <|
  (kz_M_comeUp_11 100)
noncomputable def kf_M_comeUp : kt_F := kt_run 5 kd_M_comeUp_0
theorem km_M_comeUp : kt_M l kt_shM ky_M_comeUp kb_M_comeUp 5 none 1 false kf_M_comeUp := kt_method (by decide) rfl kz_M_comeUp_0
noncomputable def kd_M_head_156 : kt_D := ki_aload 0 <| ki_push (.int 1) <| ki_put kt_shM 7 25 1 <| ki_vret
theorem kz_M_head_156 : kt_Snd l kt_shM kb_M_head 7 RX7 none 0 0 0 false false 156 kd_M_head_156 :=
  sd_aload_n (pc := 156) (kt_tab_get kx_M_head 85 rfl) rfl <|
  sd_iconst (pc := 157) (kt_tab_get kx_M_head 86 rfl) kc_i_1 <|
  sd_put (pc := 158) (k := 25) (ci := 7) kt_hc7 kt_hin7 tyX7_ok nmX7 (by decide) rfl rfl (Or.inr ⟨rfl, rfl⟩) (kt_tab_get kx_M_head 87 rfl) (kg_M_head_in _ (List.mem_of_getElem? (i := 4) rfl)) <|
  sd_vret (pc := 161) rfl (by decide) (kt_tab_get kx_M_head 88 rfl)
noncomputable def kd_M_head_268 : kt_D := ki_aload 0 <| ki_lload 4 <| ki_l2i <| ki_put kt_shM 7 24 0 <| ki_vret
theorem kz_M_head_268 : kt_Snd l kt_shM kb_M_head 7 RX7 none 0 0 0 false false 268 kd_M_head_268 :=
  sd_aload_n (pc := 268) (kt_tab_get kx_M_head 145 rfl) rfl <|
  sd_lload (pc := 269) (kt_tab_get kx_M_head 146 rfl) <|
  sd_l2i (pc := 271) (kt_tab_get kx_M_head 147 rfl) <|
  sd_put (pc := 272) (k := 24) (ci := 7) kt_hc7 kt_hin7 tyX7_ok nmX7 (by decide) rfl rfl (Or.inl ⟨rfl, rfl⟩) (kt_tab_get kx_M_head 148 rfl) (kg_M_head_in _ (List.mem_of_getElem? (i := 5) rfl)) <|
  sd_vret (pc := 275) rfl (by decide) (kt_tab_get kx_M_head 149 rfl)
noncomputable def kd_M_head_265 : kt_D := ki_put kt_shM 7 25 1 <| kd_M_head_268
theorem kz_M_head_265 : kt_Snd l kt_shM kb_M_head 7 RX7 none 0 0 0 false false 265 kd_M_head_265 :=
  sd_put (pc := 265) (k := 25) (ci := 7) kt_hc7 kt_hin7 tyX7_ok nmX7 (by decide) rfl rfl (Or.inr ⟨rfl, rfl⟩) (kt_tab_get kx_M_head 144 rfl) (kg_M_head_in _ (List.mem_of_getElem? (i := 4) rfl)) <|
  kz_M_head_268
noncomputable def kd_M_head_260 : kt_D := ki_push (.int 1) <| kd_M_head_265
theorem kz_M_head_260 : kt_Snd l kt_shM kb_M_head 7 RX7 none 0 0 0 false false 260 kd_M_head_260 :=
  sd_iconst (pc := 260) (kt_tab_get kx_M_head 141 rfl) kc_i_1 <|
  sd_goto (pc := 261) (tgt := 265) (kt_tab_get kx_M_head 142 rfl) rfl kz_M_head_265
noncomputable def kd_M_head_264 : kt_D := ki_push (.int 0) <| kd_M_head_265
theorem kz_M_head_264 : kt_Snd l kt_shM kb_M_head 7 RX7 none 0 0 0 false false 264 kd_M_head_264 :=
  sd_iconst (pc := 264) (kt_tab_get kx_M_head 143 rfl) kc_i_0 <|
  kz_M_head_265
noncomputable def kd_M_head_251 : kt_D := ki_lload 4 <| ki_push (.long 2147483647) <| ki_lcmp <| ki_if_le kd_M_head_264 kd_M_head_260
theorem kz_M_head_251 : kt_Snd l kt_shM kb_M_head 7 RX7 none 0 0 0 false false 251 kd_M_head_251 :=
  sd_lload (pc := 251) (kt_tab_get kx_M_head 137 rfl) <|
  sd_ldc2 (pc := 253) (kt_tab_get kx_M_head 138 rfl) (kg_M_head_in _ (List.mem_of_getElem? (i := 6) rfl)) <|
  sd_lcmp (pc := 256) (kt_tab_get kx_M_head 139 rfl) <|
  sd_if_le (pc := 257) (tgt := 264) (kt_tab_get kx_M_head 140 rfl) rfl kz_M_head_264 kz_M_head_260
noncomputable def kd_M_head_247 : kt_D := ki_lcmp <| ki_if_lt kd_M_head_260 kd_M_head_251
theorem kz_M_head_247 : kt_Snd l kt_shM kb_M_head 7 RX7 none 0 0 0 false false 247 kd_M_head_247 :=
  sd_lcmp (pc := 247) (kt_tab_get kx_M_head 135 rfl) <|
  sd_if_lt (pc := 248) (tgt := 260) (kt_tab_get kx_M_head 136 rfl) rfl kz_M_head_260 kz_M_head_251
noncomputable def kd_M_head_244 : kt_D := ki_push (.long 65536) <| kd_M_head_247
theorem kz_M_head_244 : kt_Snd l kt_shM kb_M_head 7 RX7 none 0 0 0 false false 244 kd_M_head_244 :=
  sd_ldc2 (pc := 244) (kt_tab_get kx_M_head 134 rfl) (kg_M_head_in _ (List.mem_of_getElem? (i := 7) rfl)) <|
  kz_M_head_247
noncomputable def kd_M_head_238 : kt_D := ki_push (.long 256) <| kd_M_head_247
theorem kz_M_head_238 : kt_Snd l kt_shM kb_M_head 7 RX7 none 0 0 0 false false 238 kd_M_head_238 :=
  sd_ldc2 (pc := 238) (kt_tab_get kx_M_head 132 rfl) (kg_M_head_in _ (List.mem_of_getElem? (i := 8) rfl)) <|
  sd_goto (pc := 241) (tgt := 247) (kt_tab_get kx_M_head 133 rfl) rfl kz_M_head_247
noncomputable def kd_M_head_233 : kt_D := ki_iload 3 <| ki_push (.int 2) <| ki_icmp_ne (ki_drop 3 kd_M_head_244) (ki_drop 3 kd_M_head_238)
theorem kz_M_head_233 : kt_Snd l kt_shM kb_M_head 7 RX7 none 0 0 0 false false 233 kd_M_head_233 :=
  sd_iload_n (pc := 233) (kt_tab_get kx_M_head 129 rfl) rfl <|
  sd_iconst (pc := 234) (kt_tab_get kx_M_head 130 rfl) kc_i_2 <|
  sd_icmp_ne (pc := 235) (tgt := 244) (kt_tab_get kx_M_head 131 rfl) rfl (sd_drop (k := 3) kz_M_head_244) (sd_drop (k := 3) kz_M_head_238)
noncomputable def kd_M_head_227 : kt_D := ki_push (.long 24) <| kd_M_head_247
theorem kz_M_head_227 : kt_Snd l kt_shM kb_M_head 7 RX7 none 0 0 0 false false 227 kd_M_head_227 :=
  sd_ldc2 (pc := 227) (kt_tab_get kx_M_head 127 rfl) (kg_M_head_in _ (List.mem_of_getElem? (i := 9) rfl)) <|
  sd_goto (pc := 230) (tgt := 247) (kt_tab_get kx_M_head 128 rfl) rfl kz_M_head_247
noncomputable def kd_M_head_209 : kt_D := ki_aload 0 <| ki_dup <| ki_get kt_shM 7 22 <| ki_iload 3 <| ki_iadd <| ki_put kt_shM 7 22 0 <| ki_aload 0 <| ki_lload 4 <| ki_iload 3 <| ki_push (.int 1) <| ki_icmp_ne kd_M_head_233 (ki_drop 3 kd_M_head_227)
theorem kz_M_head_209 : kt_Snd l kt_shM kb_M_head 7 RX7 none 0 0 0 false false 209 kd_M_head_209 :=
  sd_aload_n (pc := 209) (kt_tab_get kx_M_head 116 rfl) rfl <|
  sd_dup (pc := 210) (kt_tab_get kx_M_head 117 rfl) <|
  sd_get (pc := 211) (k := 22) (ci := 7) kt_hc7 kt_hin7 (by decide) (kt_tab_get kx_M_head 118 rfl) (kg_M_head_in _ (List.mem_of_getElem? (i := 10) rfl)) <|
  sd_iload_n (pc := 214) (kt_tab_get kx_M_head 119 rfl) rfl <|
  sd_iadd (pc := 215) (kt_tab_get kx_M_head 120 rfl) <|
  sd_put (pc := 216) (k := 22) (ci := 7) kt_hc7 kt_hin7 tyX7_ok nmX7 (by decide) rfl rfl (Or.inl ⟨rfl, rfl⟩) (kt_tab_get kx_M_head 121 rfl) (kg_M_head_in _ (List.mem_of_getElem? (i := 10) rfl)) <|
  sd_aload_n (pc := 219) (kt_tab_get kx_M_head 122 rfl) rfl <|
  sd_lload (pc := 220) (kt_tab_get kx_M_head 123 rfl) <|
  sd_iload_n (pc := 222) (kt_tab_get kx_M_head 124 rfl) rfl <|
  sd_iconst (pc := 223) (kt_tab_get kx_M_head 125 rfl) kc_i_1 <|
  sd_icmp_ne (pc := 224) (tgt := 233) (kt_tab_get kx_M_head 126 rfl) rfl kz_M_head_233 (sd_drop (k := 3) kz_M_head_227)
noncomputable def kd_M_head_182 (kh_176 : kt_D) : kt_D := ki_lload 4 <| ki_push (.int 8) <| ki_lshl <| ki_aload 0 <| ki_get kt_shM 7 9 <| ki_aload 0 <| ki_get kt_shM 7 22 <| ki_iload 6 <| ki_iadd <| ki_iald kt_shM <| ki_i2l <| ki_lor <| ki_lstore 4 <| ki_iinc 6 1 <| kh_176
theorem kz_M_head_182 {kh_176 : kt_D} (zh_176 : kt_Snd l kt_shM kb_M_head 7 RX7 none 0 0 0 false false 176 kh_176) : kt_Snd l kt_shM kb_M_head 7 RX7 none 0 0 0 false false 182 (kd_M_head_182 kh_176) :=
  sd_lload (pc := 182) (kt_tab_get kx_M_head 101 rfl) <|
  sd_bipush (pc := 184) (kt_tab_get kx_M_head 102 rfl) kc_b_8 <|
  sd_lshl (pc := 186) (kt_tab_get kx_M_head 103 rfl) <|
  sd_aload_n (pc := 187) (kt_tab_get kx_M_head 104 rfl) rfl <|
  sd_get (pc := 188) (k := 9) (ci := 7) kt_hc7 kt_hin7 (by decide) (kt_tab_get kx_M_head 105 rfl) (kg_M_head_in _ (List.mem_of_getElem? (i := 11) rfl)) <|
  sd_aload_n (pc := 191) (kt_tab_get kx_M_head 106 rfl) rfl <|
  sd_get (pc := 192) (k := 22) (ci := 7) kt_hc7 kt_hin7 (by decide) (kt_tab_get kx_M_head 107 rfl) (kg_M_head_in _ (List.mem_of_getElem? (i := 10) rfl)) <|
  sd_iload (pc := 195) (kt_tab_get kx_M_head 108 rfl) <|
  sd_iadd (pc := 197) (kt_tab_get kx_M_head 109 rfl) <|
  sd_iald (pc := 198) (kt_tab_get kx_M_head 110 rfl) <|
  sd_i2l (pc := 199) (kt_tab_get kx_M_head 111 rfl) <|
  sd_lor (pc := 200) (kt_tab_get kx_M_head 112 rfl) <|
  sd_lstore (pc := 201) (kt_tab_get kx_M_head 113 rfl) (by decide) <|
  sd_iinc (pc := 203) (kt_tab_get kx_M_head 114 rfl) kc_i_1 (by decide) <|
  sd_goto (pc := 206) (tgt := 176) (kt_tab_get kx_M_head 115 rfl) rfl zh_176
noncomputable def kd_M_head_176b (kh_176 : kt_D) : kt_D := ki_iload 6 <| ki_iload 3 <| ki_icmp_ge (ki_drop 6 kd_M_head_209) (kd_M_head_182 kh_176)
theorem kz_M_head_176b {kh_176 : kt_D} (zh_176 : kt_Snd l kt_shM kb_M_head 7 RX7 none 0 0 0 false false 176 kh_176) : kt_Snd l kt_shM kb_M_head 7 RX7 none 0 0 0 false false 176 (kd_M_head_176b kh_176) :=
  sd_iload (pc := 176) (kt_tab_get kx_M_head 98 rfl) <|
  sd_iload_n (pc := 178) (kt_tab_get kx_M_head 99 rfl) rfl <|
  sd_icmp_ge (pc := 179) (tgt := 209) (kt_tab_get kx_M_head 100 rfl) rfl (sd_drop (k := 6) kz_M_head_209) (kz_M_head_182 zh_176)
noncomputable def kd_M_head_176 (n : Nat) : kt_D := Nat.rec (fun _ _ _ => none) (fun _ ih => kd_M_head_176b ih) n
theorem kz_M_head_176 (n : Nat) : kt_Snd l kt_shM kb_M_head 7 RX7 none 0 0 0 false false 176 (kd_M_head_176 n) := by
  induction n with
  | zero => exact sd_fail
  | succ n ih => exact kz_M_head_176b ih
noncomputable def kd_M_head_170 : kt_D := ki_push (.long 0) <| ki_lstore 4 <| ki_push (.int 0) <| ki_istore 6 <| (kd_M_head_176 100)
theorem kz_M_head_170 : kt_Snd l kt_shM kb_M_head 7 RX7 none 0 0 0 false false 170 kd_M_head_170 :=
  sd_lconst (pc := 170) (kt_tab_get kx_M_head 94 rfl) kc_l_0 <|
  sd_lstore (pc := 171) (kt_tab_get kx_M_head 95 rfl) (by decide) <|
  sd_iconst (pc := 173) (kt_tab_get kx_M_head 96 rfl) kc_i_0 <|
  sd_istore (pc := 174) (kt_tab_get kx_M_head 97 rfl) (by decide) <|
  (kz_M_head_176 100)
noncomputable def kd_M_head_162 : kt_D := ki_iload 2 <| ki_i2l <| ki_lstore 4 <| ki_iload 3 <| ki_if_le (ki_drop 3 (ki_drop 2 kd_M_head_268)) (ki_drop 4 (ki_drop 2 kd_M_head_170))
theorem kz_M_head_162 : kt_Snd l kt_shM kb_M_head 7 RX7 none 0 0 0 false false 162 kd_M_head_162 :=
  sd_iload_n (pc := 162) (kt_tab_get kx_M_head 89 rfl) rfl <|
  sd_i2l (pc := 163) (kt_tab_get kx_M_head 90 rfl) <|
  sd_lstore (pc := 164) (kt_tab_get kx_M_head 91 rfl) (by decide) <|
  sd_iload_n (pc := 166) (kt_tab_get kx_M_head 92 rfl) rfl <|
  sd_if_le (pc := 167) (tgt := 268) (kt_tab_get kx_M_head 93 rfl) rfl (sd_drop (k := 3) (sd_drop (k := 2) kz_M_head_268)) (sd_drop (k := 4) (sd_drop (k := 2) kz_M_head_170))
noncomputable def kd_M_head_150 : kt_D := ki_iload 2 <| ki_push (.int 21) <| ki_icmp_eq kd_M_head_162 (ki_drop 3 (ki_drop 2 kd_M_head_156))
theorem kz_M_head_150 : kt_Snd l kt_shM kb_M_head 7 RX7 none 0 0 0 false false 150 kd_M_head_150 :=
  sd_iload_n (pc := 150) (kt_tab_get kx_M_head 82 rfl) rfl <|
  sd_bipush (pc := 151) (kt_tab_get kx_M_head 83 rfl) kc_b_21 <|
  sd_icmp_eq (pc := 153) (tgt := 162) (kt_tab_get kx_M_head 84 rfl) rfl kz_M_head_162 (sd_drop (k := 3) (sd_drop (k := 2) kz_M_head_156))
noncomputable def kd_M_head_144 : kt_D := ki_iload 2 <| ki_push (.int 20) <| ki_icmp_eq kd_M_head_162 kd_M_head_150
theorem kz_M_head_144 : kt_Snd l kt_shM kb_M_head 7 RX7 none 0 0 0 false false 144 kd_M_head_144 :=
  sd_iload_n (pc := 144) (kt_tab_get kx_M_head 79 rfl) rfl <|
  sd_bipush (pc := 145) (kt_tab_get kx_M_head 80 rfl) kc_b_20 <|
  sd_icmp_eq (pc := 147) (tgt := 162) (kt_tab_get kx_M_head 81 rfl) rfl kz_M_head_162 kz_M_head_150
noncomputable def kd_M_head_135 : kt_D := ki_aload 0 <| ki_get kt_shM 7 23 <| ki_push (.int 7) <| ki_icmp_ne kd_M_head_162 kd_M_head_144
theorem kz_M_head_135 : kt_Snd l kt_shM kb_M_head 7 RX7 none 0 0 0 false false 135 kd_M_head_135 :=
  sd_aload_n (pc := 135) (kt_tab_get kx_M_head 75 rfl) rfl <|
  sd_get (pc := 136) (k := 23) (ci := 7) kt_hc7 kt_hin7 (by decide) (kt_tab_get kx_M_head 76 rfl) (kg_M_head_in _ (List.mem_of_getElem? (i := 12) rfl)) <|
  sd_bipush (pc := 139) (kt_tab_get kx_M_head 77 rfl) kc_b_7 <|
  sd_icmp_ne (pc := 141) (tgt := 162) (kt_tab_get kx_M_head 78 rfl) rfl kz_M_head_162 kz_M_head_144
noncomputable def kd_M_head_126 : kt_D := ki_aload 0 <| ki_get kt_shM 7 23 <| ki_push (.int 6) <| ki_icmp_eq (ki_drop 3 (ki_drop 2 kd_M_head_156)) kd_M_head_135
theorem kz_M_head_126 : kt_Snd l kt_shM kb_M_head 7 RX7 none 0 0 0 false false 126 kd_M_head_126 :=
  sd_aload_n (pc := 126) (kt_tab_get kx_M_head 71 rfl) rfl <|
  sd_get (pc := 127) (k := 23) (ci := 7) kt_hc7 kt_hin7 (by decide) (kt_tab_get kx_M_head 72 rfl) (kg_M_head_in _ (List.mem_of_getElem? (i := 12) rfl)) <|
  sd_bipush (pc := 130) (kt_tab_get kx_M_head 73 rfl) kc_b_6 <|
  sd_icmp_eq (pc := 132) (tgt := 156) (kt_tab_get kx_M_head 74 rfl) rfl (sd_drop (k := 3) (sd_drop (k := 2) kz_M_head_156)) kz_M_head_135
noncomputable def kd_M_head_118 : kt_D := ki_aload 0 <| ki_get kt_shM 7 23 <| ki_push (.int 1) <| ki_icmp_eq (ki_drop 3 (ki_drop 2 kd_M_head_156)) kd_M_head_126
theorem kz_M_head_118 : kt_Snd l kt_shM kb_M_head 7 RX7 none 0 0 0 false false 118 kd_M_head_118 :=
  sd_aload_n (pc := 118) (kt_tab_get kx_M_head 67 rfl) rfl <|
  sd_get (pc := 119) (k := 23) (ci := 7) kt_hc7 kt_hin7 (by decide) (kt_tab_get kx_M_head 68 rfl) (kg_M_head_in _ (List.mem_of_getElem? (i := 12) rfl)) <|
  sd_iconst (pc := 122) (kt_tab_get kx_M_head 69 rfl) kc_i_1 <|
  sd_icmp_eq (pc := 123) (tgt := 156) (kt_tab_get kx_M_head 70 rfl) rfl (sd_drop (k := 3) (sd_drop (k := 2) kz_M_head_156)) kz_M_head_126
noncomputable def kd_M_head_105 : kt_D := ki_aload 0 <| ki_get kt_shM 7 22 <| ki_iload 3 <| ki_iadd <| ki_aload 0 <| ki_get kt_shM 7 10 <| ki_icmp_gt (ki_drop 3 (ki_drop 2 kd_M_head_156)) kd_M_head_118
theorem kz_M_head_105 : kt_Snd l kt_shM kb_M_head 7 RX7 none 0 0 0 false false 105 kd_M_head_105 :=
  sd_aload_n (pc := 105) (kt_tab_get kx_M_head 60 rfl) rfl <|
  sd_get (pc := 106) (k := 22) (ci := 7) kt_hc7 kt_hin7 (by decide) (kt_tab_get kx_M_head 61 rfl) (kg_M_head_in _ (List.mem_of_getElem? (i := 10) rfl)) <|
  sd_iload_n (pc := 109) (kt_tab_get kx_M_head 62 rfl) rfl <|
  sd_iadd (pc := 110) (kt_tab_get kx_M_head 63 rfl) <|
  sd_aload_n (pc := 111) (kt_tab_get kx_M_head 64 rfl) rfl <|
  sd_get (pc := 112) (k := 10) (ci := 7) kt_hc7 kt_hin7 (by decide) (kt_tab_get kx_M_head 65 rfl) (kg_M_head_in _ (List.mem_of_getElem? (i := 13) rfl)) <|
  sd_icmp_gt (pc := 115) (tgt := 156) (kt_tab_get kx_M_head 66 rfl) rfl (sd_drop (k := 3) (sd_drop (k := 2) kz_M_head_156)) kz_M_head_118
noncomputable def kd_M_head_100 : kt_D := ki_istore 3 <| ki_iload 3 <| ki_if_lt (ki_drop 3 (ki_drop 2 kd_M_head_156)) kd_M_head_105
theorem kz_M_head_100 : kt_Snd l kt_shM kb_M_head 7 RX7 none 0 0 0 false false 100 kd_M_head_100 :=
  sd_istore_n (pc := 100) (kt_tab_get kx_M_head 57 rfl) rfl (by decide) <|
  sd_iload_n (pc := 101) (kt_tab_get kx_M_head 58 rfl) rfl <|
  sd_if_lt (pc := 102) (tgt := 156) (kt_tab_get kx_M_head 59 rfl) rfl (sd_drop (k := 3) (sd_drop (k := 2) kz_M_head_156)) kz_M_head_105
noncomputable def kd_M_head_99 : kt_D := ki_push (.int (-1)) <| kd_M_head_100
theorem kz_M_head_99 : kt_Snd l kt_shM kb_M_head 7 RX7 none 0 0 0 false false 99 kd_M_head_99 :=
  sd_iconst (pc := 99) (kt_tab_get kx_M_head 56 rfl) kc_i_m1 <|
  kz_M_head_100
noncomputable def kd_M_head_95 : kt_D := ki_push (.int 4) <| kd_M_head_100
theorem kz_M_head_95 : kt_Snd l kt_shM kb_M_head 7 RX7 none 0 0 0 false false 95 kd_M_head_95 :=
  sd_iconst (pc := 95) (kt_tab_get kx_M_head 54 rfl) kc_i_4 <|
  sd_goto (pc := 96) (tgt := 100) (kt_tab_get kx_M_head 55 rfl) rfl kz_M_head_100
noncomputable def kd_M_head_89 : kt_D := ki_iload 2 <| ki_push (.int 26) <| ki_icmp_ne kd_M_head_99 kd_M_head_95
theorem kz_M_head_89 : kt_Snd l kt_shM kb_M_head 7 RX7 none 0 0 0 false false 89 kd_M_head_89 :=
  sd_iload_n (pc := 89) (kt_tab_get kx_M_head 51 rfl) rfl <|
  sd_bipush (pc := 90) (kt_tab_get kx_M_head 52 rfl) kc_b_26 <|
  sd_icmp_ne (pc := 92) (tgt := 99) (kt_tab_get kx_M_head 53 rfl) rfl kz_M_head_99 kz_M_head_95
noncomputable def kd_M_head_85 : kt_D := ki_push (.int 2) <| kd_M_head_100
theorem kz_M_head_85 : kt_Snd l kt_shM kb_M_head 7 RX7 none 0 0 0 false false 85 kd_M_head_85 :=
  sd_iconst (pc := 85) (kt_tab_get kx_M_head 49 rfl) kc_i_2 <|
  sd_goto (pc := 86) (tgt := 100) (kt_tab_get kx_M_head 50 rfl) rfl kz_M_head_100
noncomputable def kd_M_head_79 : kt_D := ki_iload 2 <| ki_push (.int 25) <| ki_icmp_ne kd_M_head_89 kd_M_head_85
theorem kz_M_head_79 : kt_Snd l kt_shM kb_M_head 7 RX7 none 0 0 0 false false 79 kd_M_head_79 :=
  sd_iload_n (pc := 79) (kt_tab_get kx_M_head 46 rfl) rfl <|
  sd_bipush (pc := 80) (kt_tab_get kx_M_head 47 rfl) kc_b_25 <|
  sd_icmp_ne (pc := 82) (tgt := 89) (kt_tab_get kx_M_head 48 rfl) rfl kz_M_head_89 kz_M_head_85
noncomputable def kd_M_head_75 : kt_D := ki_push (.int 1) <| kd_M_head_100
theorem kz_M_head_75 : kt_Snd l kt_shM kb_M_head 7 RX7 none 0 0 0 false false 75 kd_M_head_75 :=
  sd_iconst (pc := 75) (kt_tab_get kx_M_head 44 rfl) kc_i_1 <|
  sd_goto (pc := 76) (tgt := 100) (kt_tab_get kx_M_head 45 rfl) rfl kz_M_head_100
noncomputable def kd_M_head_69 : kt_D := ki_iload 2 <| ki_push (.int 24) <| ki_icmp_ne kd_M_head_79 kd_M_head_75
theorem kz_M_head_69 : kt_Snd l kt_shM kb_M_head 7 RX7 none 0 0 0 false false 69 kd_M_head_69 :=
  sd_iload_n (pc := 69) (kt_tab_get kx_M_head 41 rfl) rfl <|
  sd_bipush (pc := 70) (kt_tab_get kx_M_head 42 rfl) kc_b_24 <|
  sd_icmp_ne (pc := 72) (tgt := 79) (kt_tab_get kx_M_head 43 rfl) rfl kz_M_head_79 kz_M_head_75
noncomputable def kd_M_head_65 : kt_D := ki_push (.int 0) <| kd_M_head_100
theorem kz_M_head_65 : kt_Snd l kt_shM kb_M_head 7 RX7 none 0 0 0 false false 65 kd_M_head_65 :=
  sd_iconst (pc := 65) (kt_tab_get kx_M_head 39 rfl) kc_i_0 <|
  sd_goto (pc := 66) (tgt := 100) (kt_tab_get kx_M_head 40 rfl) rfl kz_M_head_100
noncomputable def kd_M_head_27 : kt_D := ki_aload 0 <| ki_get kt_shM 7 9 <| ki_aload 0 <| ki_get kt_shM 7 22 <| ki_iald kt_shM <| ki_istore 1 <| ki_aload 0 <| ki_dup <| ki_get kt_shM 7 22 <| ki_push (.int 1) <| ki_iadd <| ki_put kt_shM 7 22 0 <| ki_aload 0 <| ki_iload 1 <| ki_push (.int 5) <| ki_ishr <| ki_put kt_shM 7 23 0 <| ki_iload 1 <| ki_push (.int 31) <| ki_iand <| ki_istore 2 <| ki_iload 2 <| ki_push (.int 24) <| ki_icmp_ge (ki_drop 1 kd_M_head_69) (ki_drop 1 kd_M_head_65)
theorem kz_M_head_27 : kt_Snd l kt_shM kb_M_head 7 RX7 none 0 0 0 false false 27 kd_M_head_27 :=
  sd_aload_n (pc := 27) (kt_tab_get kx_M_head 15 rfl) rfl <|
  sd_get (pc := 28) (k := 9) (ci := 7) kt_hc7 kt_hin7 (by decide) (kt_tab_get kx_M_head 16 rfl) (kg_M_head_in _ (List.mem_of_getElem? (i := 11) rfl)) <|
  sd_aload_n (pc := 31) (kt_tab_get kx_M_head 17 rfl) rfl <|
  sd_get (pc := 32) (k := 22) (ci := 7) kt_hc7 kt_hin7 (by decide) (kt_tab_get kx_M_head 18 rfl) (kg_M_head_in _ (List.mem_of_getElem? (i := 10) rfl)) <|
  sd_iald (pc := 35) (kt_tab_get kx_M_head 19 rfl) <|
  sd_istore_n (pc := 36) (kt_tab_get kx_M_head 20 rfl) rfl (by decide) <|
  sd_aload_n (pc := 37) (kt_tab_get kx_M_head 21 rfl) rfl <|
  sd_dup (pc := 38) (kt_tab_get kx_M_head 22 rfl) <|
  sd_get (pc := 39) (k := 22) (ci := 7) kt_hc7 kt_hin7 (by decide) (kt_tab_get kx_M_head 23 rfl) (kg_M_head_in _ (List.mem_of_getElem? (i := 10) rfl)) <|
  sd_iconst (pc := 42) (kt_tab_get kx_M_head 24 rfl) kc_i_1 <|
  sd_iadd (pc := 43) (kt_tab_get kx_M_head 25 rfl) <|
  sd_put (pc := 44) (k := 22) (ci := 7) kt_hc7 kt_hin7 tyX7_ok nmX7 (by decide) rfl rfl (Or.inl ⟨rfl, rfl⟩) (kt_tab_get kx_M_head 26 rfl) (kg_M_head_in _ (List.mem_of_getElem? (i := 10) rfl)) <|
  sd_aload_n (pc := 47) (kt_tab_get kx_M_head 27 rfl) rfl <|
  sd_iload_n (pc := 48) (kt_tab_get kx_M_head 28 rfl) rfl <|
  sd_iconst (pc := 49) (kt_tab_get kx_M_head 29 rfl) kc_i_5 <|
  sd_ishr (pc := 50) (kt_tab_get kx_M_head 30 rfl) <|
  sd_put (pc := 51) (k := 23) (ci := 7) kt_hc7 kt_hin7 tyX7_ok nmX7 (by decide) rfl rfl (Or.inl ⟨rfl, rfl⟩) (kt_tab_get kx_M_head 31 rfl) (kg_M_head_in _ (List.mem_of_getElem? (i := 12) rfl)) <|
  sd_iload_n (pc := 54) (kt_tab_get kx_M_head 32 rfl) rfl <|
  sd_bipush (pc := 55) (kt_tab_get kx_M_head 33 rfl) kc_b_31 <|
  sd_iand (pc := 57) (kt_tab_get kx_M_head 34 rfl) <|
  sd_istore_n (pc := 58) (kt_tab_get kx_M_head 35 rfl) rfl (by decide) <|
  sd_iload_n (pc := 59) (kt_tab_get kx_M_head 36 rfl) rfl <|
  sd_bipush (pc := 60) (kt_tab_get kx_M_head 37 rfl) kc_b_24 <|
  sd_icmp_ge (pc := 62) (tgt := 69) (kt_tab_get kx_M_head 38 rfl) rfl (sd_drop (k := 1) kz_M_head_69) (sd_drop (k := 1) kz_M_head_65)
noncomputable def kd_M_head_21 : kt_D := ki_aload 0 <| ki_push (.int 1) <| ki_put kt_shM 7 25 1 <| ki_vret
theorem kz_M_head_21 : kt_Snd l kt_shM kb_M_head 7 RX7 none 0 0 0 false false 21 kd_M_head_21 :=
  sd_aload_n (pc := 21) (kt_tab_get kx_M_head 11 rfl) rfl <|
  sd_iconst (pc := 22) (kt_tab_get kx_M_head 12 rfl) kc_i_1 <|
  sd_put (pc := 23) (k := 25) (ci := 7) kt_hc7 kt_hin7 tyX7_ok nmX7 (by decide) rfl rfl (Or.inr ⟨rfl, rfl⟩) (kt_tab_get kx_M_head 13 rfl) (kg_M_head_in _ (List.mem_of_getElem? (i := 4) rfl)) <|
  sd_vret (pc := 26) rfl (by decide) (kt_tab_get kx_M_head 14 rfl)
noncomputable def kd_M_head_0 : kt_D := ki_aload 0 <| ki_push (.int 0) <| ki_put kt_shM 7 23 0 <| ki_aload 0 <| ki_push (.int 0) <| ki_put kt_shM 7 24 0 <| ki_aload 0 <| ki_get kt_shM 7 22 <| ki_aload 0 <| ki_get kt_shM 7 10 <| ki_icmp_lt kd_M_head_27 kd_M_head_21
theorem kz_M_head_0 : kt_Snd l kt_shM kb_M_head 7 RX7 none 0 0 0 false false 0 kd_M_head_0 :=
  sd_aload_n (pc := 0) (kt_tab_get kx_M_head 0 rfl) rfl <|
  sd_iconst (pc := 1) (kt_tab_get kx_M_head 1 rfl) kc_i_0 <|
  sd_put (pc := 2) (k := 23) (ci := 7) kt_hc7 kt_hin7 tyX7_ok nmX7 (by decide) rfl rfl (Or.inl ⟨rfl, rfl⟩) (kt_tab_get kx_M_head 2 rfl) (kg_M_head_in _ (List.mem_of_getElem? (i := 12) rfl)) <|
  sd_aload_n (pc := 5) (kt_tab_get kx_M_head 3 rfl) rfl <|
  sd_iconst (pc := 6) (kt_tab_get kx_M_head 4 rfl) kc_i_0 <|
  sd_put (pc := 7) (k := 24) (ci := 7) kt_hc7 kt_hin7 tyX7_ok nmX7 (by decide) rfl rfl (Or.inl ⟨rfl, rfl⟩) (kt_tab_get kx_M_head 5 rfl) (kg_M_head_in _ (List.mem_of_getElem? (i := 5) rfl)) <|
  sd_aload_n (pc := 10) (kt_tab_get kx_M_head 6 rfl) rfl <|
  sd_get (pc := 11) (k := 22) (ci := 7) kt_hc7 kt_hin7 (by decide) (kt_tab_get kx_M_head 7 rfl) (kg_M_head_in _ (List.mem_of_getElem? (i := 10) rfl)) <|
  sd_aload_n (pc := 14) (kt_tab_get kx_M_head 8 rfl) rfl <|
  sd_get (pc := 15) (k := 10) (ci := 7) kt_hc7 kt_hin7 (by decide) (kt_tab_get kx_M_head 9 rfl) (kg_M_head_in _ (List.mem_of_getElem? (i := 13) rfl)) <|
  sd_icmp_lt (pc := 18) (tgt := 27) (kt_tab_get kx_M_head 10 rfl) rfl kz_M_head_27 kz_M_head_21
noncomputable def kf_M_head : kt_F := kt_run 7 kd_M_head_0
theorem km_M_head : kt_M l kt_shM ky_M_head kb_M_head 7 none 0 false kf_M_head := kt_method (by decide) rfl kz_M_head_0
noncomputable def kd_M_string_86 : kt_D := ki_iload 1 <| ki_zret
theorem kz_M_string_86 : kt_Snd l kt_shM kb_M_string 3 RX7 (some .boolean) 0 0 0 true true 86 kd_M_string_86 :=
  sd_iload_n (pc := 86) (kt_tab_get kx_M_string 48 rfl) rfl <|
  sd_zret (pc := 87) rfl (by decide) (kt_tab_get kx_M_string 49 rfl)
noncomputable def kd_M_string_79 (kh_22 : kt_D) : kt_D := ki_istore 1 <| ki_iinc 2 1 <| kh_22
theorem kz_M_string_79 {kh_22 : kt_D} (zh_22 : kt_Snd l kt_shM kb_M_string 3 RX7 (some .boolean) 0 0 0 true true 22 kh_22) : kt_Snd l kt_shM kb_M_string 3 RX7 (some .boolean) 0 0 0 true true 79 (kd_M_string_79 kh_22) :=
  sd_istore_n (pc := 79) (kt_tab_get kx_M_string 45 rfl) rfl (by decide) <|
  sd_iinc (pc := 80) (kt_tab_get kx_M_string 46 rfl) kc_i_1 (by decide) <|
  sd_goto (pc := 83) (tgt := 22) (kt_tab_get kx_M_string 47 rfl) rfl zh_22
noncomputable def kd_M_string_78 (kh_22 : kt_D) : kt_D := ki_push (.int 0) <| (kd_M_string_79 kh_22)
theorem kz_M_string_78 {kh_22 : kt_D} (zh_22 : kt_Snd l kt_shM kb_M_string 3 RX7 (some .boolean) 0 0 0 true true 22 kh_22) : kt_Snd l kt_shM kb_M_string 3 RX7 (some .boolean) 0 0 0 true true 78 (kd_M_string_78 kh_22) :=
  sd_iconst (pc := 78) (kt_tab_get kx_M_string 44 rfl) kc_i_0 <|
  (kz_M_string_79 zh_22)
noncomputable def kd_M_string_74 (kh_22 : kt_D) : kt_D := ki_push (.int 1) <| (kd_M_string_79 kh_22)
theorem kz_M_string_74 {kh_22 : kt_D} (zh_22 : kt_Snd l kt_shM kb_M_string 3 RX7 (some .boolean) 0 0 0 true true 22 kh_22) : kt_Snd l kt_shM kb_M_string 3 RX7 (some .boolean) 0 0 0 true true 74 (kd_M_string_74 kh_22) :=
  sd_iconst (pc := 74) (kt_tab_get kx_M_string 42 rfl) kc_i_1 <|
  sd_goto (pc := 75) (tgt := 79) (kt_tab_get kx_M_string 43 rfl) rfl (kz_M_string_79 zh_22)
noncomputable def kd_M_string_58 (kh_22 : kt_D) : kt_D := ki_aload 0 <| ki_get kt_shM 7 9 <| ki_aload 0 <| ki_get kt_shM 7 22 <| ki_iload 2 <| ki_iadd <| ki_iald kt_shM <| ki_push (.int 127) <| ki_icmp_ge (kd_M_string_78 kh_22) (kd_M_string_74 kh_22)
theorem kz_M_string_58 {kh_22 : kt_D} (zh_22 : kt_Snd l kt_shM kb_M_string 3 RX7 (some .boolean) 0 0 0 true true 22 kh_22) : kt_Snd l kt_shM kb_M_string 3 RX7 (some .boolean) 0 0 0 true true 58 (kd_M_string_58 kh_22) :=
  sd_aload_n (pc := 58) (kt_tab_get kx_M_string 33 rfl) rfl <|
  sd_get (pc := 59) (k := 9) (ci := 7) kt_hc7 kt_hin7 (by decide) (kt_tab_get kx_M_string 34 rfl) (kg_M_string_in _ (List.mem_of_getElem? (i := 4) rfl)) <|
  sd_aload_n (pc := 62) (kt_tab_get kx_M_string 35 rfl) rfl <|
  sd_get (pc := 63) (k := 22) (ci := 7) kt_hc7 kt_hin7 (by decide) (kt_tab_get kx_M_string 36 rfl) (kg_M_string_in _ (List.mem_of_getElem? (i := 5) rfl)) <|
  sd_iload_n (pc := 66) (kt_tab_get kx_M_string 37 rfl) rfl <|
  sd_iadd (pc := 67) (kt_tab_get kx_M_string 38 rfl) <|
  sd_iald (pc := 68) (kt_tab_get kx_M_string 39 rfl) <|
  sd_bipush (pc := 69) (kt_tab_get kx_M_string 40 rfl) kc_b_127 <|
  sd_icmp_ge (pc := 71) (tgt := 78) (kt_tab_get kx_M_string 41 rfl) rfl (kz_M_string_78 zh_22) (kz_M_string_74 zh_22)
noncomputable def kd_M_string_42 (kh_22 : kt_D) : kt_D := ki_aload 0 <| ki_get kt_shM 7 9 <| ki_aload 0 <| ki_get kt_shM 7 22 <| ki_iload 2 <| ki_iadd <| ki_iald kt_shM <| ki_push (.int 31) <| ki_icmp_le (kd_M_string_78 kh_22) (kd_M_string_58 kh_22)
theorem kz_M_string_42 {kh_22 : kt_D} (zh_22 : kt_Snd l kt_shM kb_M_string 3 RX7 (some .boolean) 0 0 0 true true 22 kh_22) : kt_Snd l kt_shM kb_M_string 3 RX7 (some .boolean) 0 0 0 true true 42 (kd_M_string_42 kh_22) :=
  sd_aload_n (pc := 42) (kt_tab_get kx_M_string 24 rfl) rfl <|
  sd_get (pc := 43) (k := 9) (ci := 7) kt_hc7 kt_hin7 (by decide) (kt_tab_get kx_M_string 25 rfl) (kg_M_string_in _ (List.mem_of_getElem? (i := 4) rfl)) <|
  sd_aload_n (pc := 46) (kt_tab_get kx_M_string 26 rfl) rfl <|
  sd_get (pc := 47) (k := 22) (ci := 7) kt_hc7 kt_hin7 (by decide) (kt_tab_get kx_M_string 27 rfl) (kg_M_string_in _ (List.mem_of_getElem? (i := 5) rfl)) <|
  sd_iload_n (pc := 50) (kt_tab_get kx_M_string 28 rfl) rfl <|
  sd_iadd (pc := 51) (kt_tab_get kx_M_string 29 rfl) <|
  sd_iald (pc := 52) (kt_tab_get kx_M_string 30 rfl) <|
  sd_bipush (pc := 53) (kt_tab_get kx_M_string 31 rfl) kc_b_31 <|
  sd_icmp_le (pc := 55) (tgt := 78) (kt_tab_get kx_M_string 32 rfl) rfl (kz_M_string_78 zh_22) (kz_M_string_58 zh_22)
noncomputable def kd_M_string_38 (kh_22 : kt_D) : kt_D := ki_iload 1 <| ki_if_eq (ki_drop 1 (kd_M_string_78 kh_22)) (ki_drop 1 (kd_M_string_42 kh_22))
theorem kz_M_string_38 {kh_22 : kt_D} (zh_22 : kt_Snd l kt_shM kb_M_string 3 RX7 (some .boolean) 0 0 0 true true 22 kh_22) : kt_Snd l kt_shM kb_M_string 3 RX7 (some .boolean) 0 0 0 true true 38 (kd_M_string_38 kh_22) :=
  sd_iload_n (pc := 38) (kt_tab_get kx_M_string 22 rfl) rfl <|
  sd_if_eq (pc := 39) (tgt := 78) (kt_tab_get kx_M_string 23 rfl) rfl (sd_drop (k := 1) (kz_M_string_78 zh_22)) (sd_drop (k := 1) (kz_M_string_42 zh_22))
noncomputable def kd_M_string_30 (kh_22 : kt_D) : kt_D := ki_aload 0 <| ki_get kt_shM 7 23 <| ki_push (.int 3) <| ki_icmp_ne (ki_drop 2 (ki_drop 0 kd_M_string_86)) (kd_M_string_38 kh_22)
theorem kz_M_string_30 {kh_22 : kt_D} (zh_22 : kt_Snd l kt_shM kb_M_string 3 RX7 (some .boolean) 0 0 0 true true 22 kh_22) : kt_Snd l kt_shM kb_M_string 3 RX7 (some .boolean) 0 0 0 true true 30 (kd_M_string_30 kh_22) :=
  sd_aload_n (pc := 30) (kt_tab_get kx_M_string 18 rfl) rfl <|
  sd_get (pc := 31) (k := 23) (ci := 7) kt_hc7 kt_hin7 (by decide) (kt_tab_get kx_M_string 19 rfl) (kg_M_string_in _ (List.mem_of_getElem? (i := 6) rfl)) <|
  sd_iconst (pc := 34) (kt_tab_get kx_M_string 20 rfl) kc_i_3 <|
  sd_icmp_ne (pc := 35) (tgt := 86) (kt_tab_get kx_M_string 21 rfl) rfl (sd_drop (k := 2) (sd_drop (k := 0) kz_M_string_86)) (kz_M_string_38 zh_22)
noncomputable def kd_M_string_22b (kh_22 : kt_D) : kt_D := ki_iload 2 <| ki_aload 0 <| ki_get kt_shM 7 24 <| ki_icmp_ge (ki_drop 2 (ki_drop 0 kd_M_string_86)) (kd_M_string_30 kh_22)
theorem kz_M_string_22b {kh_22 : kt_D} (zh_22 : kt_Snd l kt_shM kb_M_string 3 RX7 (some .boolean) 0 0 0 true true 22 kh_22) : kt_Snd l kt_shM kb_M_string 3 RX7 (some .boolean) 0 0 0 true true 22 (kd_M_string_22b kh_22) :=
  sd_iload_n (pc := 22) (kt_tab_get kx_M_string 14 rfl) rfl <|
  sd_aload_n (pc := 23) (kt_tab_get kx_M_string 15 rfl) rfl <|
  sd_get (pc := 24) (k := 24) (ci := 7) kt_hc7 kt_hin7 (by decide) (kt_tab_get kx_M_string 16 rfl) (kg_M_string_in _ (List.mem_of_getElem? (i := 7) rfl)) <|
  sd_icmp_ge (pc := 27) (tgt := 86) (kt_tab_get kx_M_string 17 rfl) rfl (sd_drop (k := 2) (sd_drop (k := 0) kz_M_string_86)) (kz_M_string_30 zh_22)
noncomputable def kd_M_string_22 (n : Nat) : kt_D := Nat.rec (fun _ _ _ => none) (fun _ ih => kd_M_string_22b ih) n
theorem kz_M_string_22 (n : Nat) : kt_Snd l kt_shM kb_M_string 3 RX7 (some .boolean) 0 0 0 true true 22 (kd_M_string_22 n) := by
  induction n with
  | zero => exact sd_fail
  | succ n ih => exact kz_M_string_22b ih
noncomputable def kd_M_string_18 : kt_D := ki_push (.int 1) <| ki_istore 1 <| ki_push (.int 0) <| ki_istore 2 <| (kd_M_string_22 100)
theorem kz_M_string_18 : kt_Snd l kt_shM kb_M_string 3 RX7 (some .boolean) 0 0 0 true true 18 kd_M_string_18 :=
  sd_iconst (pc := 18) (kt_tab_get kx_M_string 10 rfl) kc_i_1 <|
  sd_istore_n (pc := 19) (kt_tab_get kx_M_string 11 rfl) rfl (by decide) <|
  sd_iconst (pc := 20) (kt_tab_get kx_M_string 12 rfl) kc_i_0 <|
  sd_istore_n (pc := 21) (kt_tab_get kx_M_string 13 rfl) rfl (by decide) <|
  (kz_M_string_22 100)
noncomputable def kd_M_string_16 : kt_D := ki_push (.int 0) <| ki_zret
theorem kz_M_string_16 : kt_Snd l kt_shM kb_M_string 3 RX7 (some .boolean) 0 0 0 true true 16 kd_M_string_16 :=
  sd_iconst (pc := 16) (kt_tab_get kx_M_string 8 rfl) kc_i_0 <|
  sd_zret (pc := 17) rfl (by decide) (kt_tab_get kx_M_string 9 rfl)
noncomputable def kd_M_string_0 : kt_D := ki_aload 0 <| ki_get kt_shM 7 24 <| ki_aload 0 <| ki_get kt_shM 7 10 <| ki_aload 0 <| ki_get kt_shM 7 22 <| ki_isub <| ki_icmp_le kd_M_string_18 (ki_drop 0 kd_M_string_16)
theorem kz_M_string_0 : kt_Snd l kt_shM kb_M_string 3 RX7 (some .boolean) 0 0 0 true true 0 kd_M_string_0 :=
  sd_aload_n (pc := 0) (kt_tab_get kx_M_string 0 rfl) rfl <|
  sd_get (pc := 1) (k := 24) (ci := 7) kt_hc7 kt_hin7 (by decide) (kt_tab_get kx_M_string 1 rfl) (kg_M_string_in _ (List.mem_of_getElem? (i := 7) rfl)) <|
  sd_aload_n (pc := 4) (kt_tab_get kx_M_string 2 rfl) rfl <|
  sd_get (pc := 5) (k := 10) (ci := 7) kt_hc7 kt_hin7 (by decide) (kt_tab_get kx_M_string 3 rfl) (kg_M_string_in _ (List.mem_of_getElem? (i := 8) rfl)) <|
  sd_aload_n (pc := 8) (kt_tab_get kx_M_string 4 rfl) rfl <|
  sd_get (pc := 9) (k := 22) (ci := 7) kt_hc7 kt_hin7 (by decide) (kt_tab_get kx_M_string 5 rfl) (kg_M_string_in _ (List.mem_of_getElem? (i := 5) rfl)) <|
  sd_isub (pc := 12) (kt_tab_get kx_M_string 6 rfl) <|
  sd_icmp_le (pc := 13) (tgt := 18) (kt_tab_get kx_M_string 7 rfl) rfl kz_M_string_18 (sd_drop (k := 0) kz_M_string_16)
noncomputable def kf_M_string : kt_F := kt_run 3 kd_M_string_0
theorem km_M_string : kt_M l kt_shM ky_M_string kb_M_string 3 (some .boolean) 0 true kf_M_string := kt_method (by decide) rfl kz_M_string_0
noncomputable def kd_M_enter_18 : kt_D := ki_zast kt_shM <| ki_aload 0 <| ki_get kt_shM 7 27 <| ki_iload 1 <| ki_aload 0 <| ki_get kt_shM 7 24 <| ki_iast kt_shM <| ki_aload 0 <| ki_get kt_shM 7 28 <| ki_iload 1 <| ki_push (.int (-1)) <| ki_iast kt_shM <| ki_aload 0 <| ki_get kt_shM 7 29 <| ki_iload 1 <| ki_push (.int 1) <| ki_zast kt_shM <| ki_vret
theorem kz_M_enter_18 : kt_Snd l kt_shM kb_M_enter 2 RX7 none 0 0 0 false false 18 kd_M_enter_18 :=
  sd_zast (pc := 18) (kt_tab_get kx_M_enter 10 rfl) <|
  sd_aload_n (pc := 19) (kt_tab_get kx_M_enter 11 rfl) rfl <|
  sd_get (pc := 20) (k := 27) (ci := 7) kt_hc7 kt_hin7 (by decide) (kt_tab_get kx_M_enter 12 rfl) (kg_M_enter_in _ (List.mem_of_getElem? (i := 4) rfl)) <|
  sd_iload_n (pc := 23) (kt_tab_get kx_M_enter 13 rfl) rfl <|
  sd_aload_n (pc := 24) (kt_tab_get kx_M_enter 14 rfl) rfl <|
  sd_get (pc := 25) (k := 24) (ci := 7) kt_hc7 kt_hin7 (by decide) (kt_tab_get kx_M_enter 15 rfl) (kg_M_enter_in _ (List.mem_of_getElem? (i := 5) rfl)) <|
  sd_iast (pc := 28) (kt_tab_get kx_M_enter 16 rfl) <|
  sd_aload_n (pc := 29) (kt_tab_get kx_M_enter 17 rfl) rfl <|
  sd_get (pc := 30) (k := 28) (ci := 7) kt_hc7 kt_hin7 (by decide) (kt_tab_get kx_M_enter 18 rfl) (kg_M_enter_in _ (List.mem_of_getElem? (i := 6) rfl)) <|
  sd_iload_n (pc := 33) (kt_tab_get kx_M_enter 19 rfl) rfl <|
  sd_iconst (pc := 34) (kt_tab_get kx_M_enter 20 rfl) kc_i_m1 <|
  sd_iast (pc := 35) (kt_tab_get kx_M_enter 21 rfl) <|
  sd_aload_n (pc := 36) (kt_tab_get kx_M_enter 22 rfl) rfl <|
  sd_get (pc := 37) (k := 29) (ci := 7) kt_hc7 kt_hin7 (by decide) (kt_tab_get kx_M_enter 23 rfl) (kg_M_enter_in _ (List.mem_of_getElem? (i := 7) rfl)) <|
  sd_iload_n (pc := 40) (kt_tab_get kx_M_enter 24 rfl) rfl <|
  sd_iconst (pc := 41) (kt_tab_get kx_M_enter 25 rfl) kc_i_1 <|
  sd_zast (pc := 42) (kt_tab_get kx_M_enter 26 rfl) <|
  sd_vret (pc := 43) rfl (by decide) (kt_tab_get kx_M_enter 27 rfl)
noncomputable def kd_M_enter_17 : kt_D := ki_push (.int 0) <| kd_M_enter_18
theorem kz_M_enter_17 : kt_Snd l kt_shM kb_M_enter 2 RX7 none 0 0 0 false false 17 kd_M_enter_17 :=
  sd_iconst (pc := 17) (kt_tab_get kx_M_enter 9 rfl) kc_i_0 <|
  kz_M_enter_18
noncomputable def kd_M_enter_13 : kt_D := ki_push (.int 1) <| kd_M_enter_18
theorem kz_M_enter_13 : kt_Snd l kt_shM kb_M_enter 2 RX7 none 0 0 0 false false 13 kd_M_enter_13 :=
  sd_iconst (pc := 13) (kt_tab_get kx_M_enter 7 rfl) kc_i_1 <|
  sd_goto (pc := 14) (tgt := 18) (kt_tab_get kx_M_enter 8 rfl) rfl kz_M_enter_18
noncomputable def kd_M_enter_0 : kt_D := ki_aload 0 <| ki_get kt_shM 7 26 <| ki_iload 1 <| ki_aload 0 <| ki_get kt_shM 7 23 <| ki_push (.int 5) <| ki_icmp_ne kd_M_enter_17 kd_M_enter_13
theorem kz_M_enter_0 : kt_Snd l kt_shM kb_M_enter 2 RX7 none 0 0 0 false false 0 kd_M_enter_0 :=
  sd_aload_n (pc := 0) (kt_tab_get kx_M_enter 0 rfl) rfl <|
  sd_get (pc := 1) (k := 26) (ci := 7) kt_hc7 kt_hin7 (by decide) (kt_tab_get kx_M_enter 1 rfl) (kg_M_enter_in _ (List.mem_of_getElem? (i := 8) rfl)) <|
  sd_iload_n (pc := 4) (kt_tab_get kx_M_enter 2 rfl) rfl <|
  sd_aload_n (pc := 5) (kt_tab_get kx_M_enter 3 rfl) rfl <|
  sd_get (pc := 6) (k := 23) (ci := 7) kt_hc7 kt_hin7 (by decide) (kt_tab_get kx_M_enter 4 rfl) (kg_M_enter_in _ (List.mem_of_getElem? (i := 9) rfl)) <|
  sd_iconst (pc := 9) (kt_tab_get kx_M_enter 5 rfl) kc_i_5 <|
  sd_icmp_ne (pc := 10) (tgt := 17) (kt_tab_get kx_M_enter 6 rfl) rfl kz_M_enter_17 kz_M_enter_13
noncomputable def kf_M_enter : kt_F := kt_run 2 kd_M_enter_0
theorem km_M_enter : kt_M l kt_shM ky_M_enter kb_M_enter 2 none 0 false kf_M_enter := kt_method (by decide) rfl kz_M_enter_0
noncomputable def kd_M_readKey_82 : kt_D := ki_vret
theorem kz_M_readKey_82 : kt_Snd l kt_shM kb_M_readKey 2 RX7 none 1 0 0 false false 82 kd_M_readKey_82 :=
  sd_vret (pc := 82) rfl (by decide) (kt_tab_get kx_M_readKey 44 rfl)
noncomputable def kd_M_readKey_69 : kt_D := ki_aload 0 <| ki_get kt_shM 7 31 <| ki_aload 0 <| ki_get kt_shM 7 30 <| ki_aload 0 <| ki_get kt_shM 7 24 <| ki_iast kt_shM <| (ki_drop 0 kd_M_readKey_82)
theorem kz_M_readKey_69 : kt_Snd l kt_shM kb_M_readKey 2 RX7 none 1 0 0 false false 69 kd_M_readKey_69 :=
  sd_aload_n (pc := 69) (kt_tab_get kx_M_readKey 37 rfl) rfl <|
  sd_get (pc := 70) (k := 31) (ci := 7) kt_hc7 kt_hin7 (by decide) (kt_tab_get kx_M_readKey 38 rfl) (kg_M_readKey_in _ (List.mem_of_getElem? (i := 4) rfl)) <|
  sd_aload_n (pc := 73) (kt_tab_get kx_M_readKey 39 rfl) rfl <|
  sd_get (pc := 74) (k := 30) (ci := 7) kt_hc7 kt_hin7 (by decide) (kt_tab_get kx_M_readKey 40 rfl) (kg_M_readKey_in _ (List.mem_of_getElem? (i := 5) rfl)) <|
  sd_aload_n (pc := 77) (kt_tab_get kx_M_readKey 41 rfl) rfl <|
  sd_get (pc := 78) (k := 24) (ci := 7) kt_hc7 kt_hin7 (by decide) (kt_tab_get kx_M_readKey 42 rfl) (kg_M_readKey_in _ (List.mem_of_getElem? (i := 6) rfl)) <|
  sd_iast (pc := 81) (kt_tab_get kx_M_readKey 43 rfl) <|
  (sd_drop (k := 0) kz_M_readKey_82)
noncomputable def kd_M_readKey_62 : kt_D := ki_aload 0 <| ki_get kt_shM 7 25 <| ki_if_ne (ki_drop 0 kd_M_readKey_82) kd_M_readKey_69
theorem kz_M_readKey_62 : kt_Snd l kt_shM kb_M_readKey 2 RX7 none 1 0 0 false false 62 kd_M_readKey_62 :=
  sd_aload_n (pc := 62) (kt_tab_get kx_M_readKey 34 rfl) rfl <|
  sd_get (pc := 63) (k := 25) (ci := 7) kt_hc7 kt_hin7 (by decide) (kt_tab_get kx_M_readKey 35 rfl) (kg_M_readKey_in _ (List.mem_of_getElem? (i := 7) rfl)) <|
  sd_if_ne (pc := 66) (tgt := 82) (kt_tab_get kx_M_readKey 36 rfl) rfl (sd_drop (k := 0) kz_M_readKey_82) kz_M_readKey_69
noncomputable def kd_M_readKey_37 : kt_D := ki_put kt_shM 7 25 1 <| ki_aload 0 <| ki_get kt_shM 7 28 <| ki_iload 1 <| ki_aload 0 <| ki_get kt_shM 7 24 <| ki_iast kt_shM <| ki_aload 0 <| ki_get kt_shM 7 29 <| ki_iload 1 <| ki_push (.int 0) <| ki_zast kt_shM <| ki_iload 1 <| ki_push (.int 1) <| ki_icmp_ne (ki_drop 1 (ki_drop 0 kd_M_readKey_82)) (ki_drop 1 kd_M_readKey_62)
theorem kz_M_readKey_37 : kt_Snd l kt_shM kb_M_readKey 2 RX7 none 1 0 0 false false 37 kd_M_readKey_37 :=
  sd_put (pc := 37) (k := 25) (ci := 7) kt_hc7 kt_hin7 tyX7_ok nmX7 (by decide) rfl rfl (Or.inr ⟨rfl, rfl⟩) (kt_tab_get kx_M_readKey 19 rfl) (kg_M_readKey_in _ (List.mem_of_getElem? (i := 7) rfl)) <|
  sd_aload_n (pc := 40) (kt_tab_get kx_M_readKey 20 rfl) rfl <|
  sd_get (pc := 41) (k := 28) (ci := 7) kt_hc7 kt_hin7 (by decide) (kt_tab_get kx_M_readKey 21 rfl) (kg_M_readKey_in _ (List.mem_of_getElem? (i := 8) rfl)) <|
  sd_iload_n (pc := 44) (kt_tab_get kx_M_readKey 22 rfl) rfl <|
  sd_aload_n (pc := 45) (kt_tab_get kx_M_readKey 23 rfl) rfl <|
  sd_get (pc := 46) (k := 24) (ci := 7) kt_hc7 kt_hin7 (by decide) (kt_tab_get kx_M_readKey 24 rfl) (kg_M_readKey_in _ (List.mem_of_getElem? (i := 6) rfl)) <|
  sd_iast (pc := 49) (kt_tab_get kx_M_readKey 25 rfl) <|
  sd_aload_n (pc := 50) (kt_tab_get kx_M_readKey 26 rfl) rfl <|
  sd_get (pc := 51) (k := 29) (ci := 7) kt_hc7 kt_hin7 (by decide) (kt_tab_get kx_M_readKey 27 rfl) (kg_M_readKey_in _ (List.mem_of_getElem? (i := 9) rfl)) <|
  sd_iload_n (pc := 54) (kt_tab_get kx_M_readKey 28 rfl) rfl <|
  sd_iconst (pc := 55) (kt_tab_get kx_M_readKey 29 rfl) kc_i_0 <|
  sd_zast (pc := 56) (kt_tab_get kx_M_readKey 30 rfl) <|
  sd_iload_n (pc := 57) (kt_tab_get kx_M_readKey 31 rfl) rfl <|
  sd_iconst (pc := 58) (kt_tab_get kx_M_readKey 32 rfl) kc_i_1 <|
  sd_icmp_ne (pc := 59) (tgt := 82) (kt_tab_get kx_M_readKey 33 rfl) rfl (sd_drop (k := 1) (sd_drop (k := 0) kz_M_readKey_82)) (sd_drop (k := 1) kz_M_readKey_62)
noncomputable def kd_M_readKey_32 : kt_D := ki_push (.int 1) <| kd_M_readKey_37
theorem kz_M_readKey_32 : kt_Snd l kt_shM kb_M_readKey 2 RX7 none 1 0 0 false false 32 kd_M_readKey_32 :=
  sd_iconst (pc := 32) (kt_tab_get kx_M_readKey 16 rfl) kc_i_1 <|
  sd_goto (pc := 33) (tgt := 37) (kt_tab_get kx_M_readKey 17 rfl) rfl kz_M_readKey_37
noncomputable def kd_M_readKey_36 : kt_D := ki_push (.int 0) <| kd_M_readKey_37
theorem kz_M_readKey_36 : kt_Snd l kt_shM kb_M_readKey 2 RX7 none 1 0 0 false false 36 kd_M_readKey_36 :=
  sd_iconst (pc := 36) (kt_tab_get kx_M_readKey 18 rfl) kc_i_0 <|
  kz_M_readKey_37
noncomputable def kd_M_readKey_19 : kt_D := ki_aload 0 <| ki_get kt_shM 7 24 <| ki_aload 0 <| ki_get kt_shM 7 28 <| ki_iload 1 <| ki_iald kt_shM <| ki_icmp_gt kd_M_readKey_36 kd_M_readKey_32
theorem kz_M_readKey_19 : kt_Snd l kt_shM kb_M_readKey 2 RX7 none 1 0 0 false false 19 kd_M_readKey_19 :=
  sd_aload_n (pc := 19) (kt_tab_get kx_M_readKey 9 rfl) rfl <|
  sd_get (pc := 20) (k := 24) (ci := 7) kt_hc7 kt_hin7 (by decide) (kt_tab_get kx_M_readKey 10 rfl) (kg_M_readKey_in _ (List.mem_of_getElem? (i := 6) rfl)) <|
  sd_aload_n (pc := 23) (kt_tab_get kx_M_readKey 11 rfl) rfl <|
  sd_get (pc := 24) (k := 28) (ci := 7) kt_hc7 kt_hin7 (by decide) (kt_tab_get kx_M_readKey 12 rfl) (kg_M_readKey_in _ (List.mem_of_getElem? (i := 8) rfl)) <|
  sd_iload_n (pc := 27) (kt_tab_get kx_M_readKey 13 rfl) rfl <|
  sd_iald (pc := 28) (kt_tab_get kx_M_readKey 14 rfl) <|
  sd_icmp_gt (pc := 29) (tgt := 36) (kt_tab_get kx_M_readKey 15 rfl) rfl kz_M_readKey_36 kz_M_readKey_32
noncomputable def kd_M_readKey_12 : kt_D := ki_aload 0 <| ki_get kt_shM 7 23 <| ki_if_ne kd_M_readKey_32 kd_M_readKey_19
theorem kz_M_readKey_12 : kt_Snd l kt_shM kb_M_readKey 2 RX7 none 1 0 0 false false 12 kd_M_readKey_12 :=
  sd_aload_n (pc := 12) (kt_tab_get kx_M_readKey 6 rfl) rfl <|
  sd_get (pc := 13) (k := 23) (ci := 7) kt_hc7 kt_hin7 (by decide) (kt_tab_get kx_M_readKey 7 rfl) (kg_M_readKey_in _ (List.mem_of_getElem? (i := 10) rfl)) <|
  sd_if_ne (pc := 16) (tgt := 32) (kt_tab_get kx_M_readKey 8 rfl) rfl kz_M_readKey_32 kz_M_readKey_19
noncomputable def kd_M_readKey_0 : kt_D := ki_aload 0 <| ki_callV kt_shM 7 0 kf_M_head <| ki_aload 0 <| ki_aload 0 <| ki_get kt_shM 7 25 <| ki_if_ne kd_M_readKey_32 kd_M_readKey_12
theorem kz_M_readKey_0 : kt_Snd l kt_shM kb_M_readKey 2 RX7 none 1 0 0 false false 0 kd_M_readKey_0 :=
  sd_aload_n (pc := 0) (kt_tab_get kx_M_readKey 0 rfl) rfl <|
  sd_callV (pc := 1) km_M_head (by decide) kv_M_head (ci := 7) kt_hc7 (by decide) (kt_tab_get kx_M_readKey 1 rfl) (kg_M_readKey_in _ (List.mem_of_getElem? (i := 11) rfl)) <|
  sd_aload_n (pc := 4) (kt_tab_get kx_M_readKey 2 rfl) rfl <|
  sd_aload_n (pc := 5) (kt_tab_get kx_M_readKey 3 rfl) rfl <|
  sd_get (pc := 6) (k := 25) (ci := 7) kt_hc7 kt_hin7 (by decide) (kt_tab_get kx_M_readKey 4 rfl) (kg_M_readKey_in _ (List.mem_of_getElem? (i := 7) rfl)) <|
  sd_if_ne (pc := 9) (tgt := 32) (kt_tab_get kx_M_readKey 5 rfl) rfl kz_M_readKey_32 kz_M_readKey_12
noncomputable def kf_M_readKey : kt_F := kt_run 2 kd_M_readKey_0
theorem km_M_readKey : kt_M l kt_shM ky_M_readKey kb_M_readKey 2 none 1 false kf_M_readKey := kt_method (by decide) rfl kz_M_readKey_0
noncomputable def kd_M_item_239 : kt_D := ki_iret
theorem kz_M_item_239 : kt_Snd l kt_shM kb_M_item 3 RX7 (some .int) 1 0 0 false false 239 kd_M_item_239 :=
  sd_iret (pc := 239) rfl (by decide) (kt_tab_get kx_M_item 135 rfl)
noncomputable def kd_M_item_236 : kt_D := ki_iload 1 <| ki_push (.int 1) <| ki_iadd <| (ki_drop 1 kd_M_item_239)
theorem kz_M_item_236 : kt_Snd l kt_shM kb_M_item 3 RX7 (some .int) 1 0 0 false false 236 kd_M_item_236 :=
  sd_iload_n (pc := 236) (kt_tab_get kx_M_item 132 rfl) rfl <|
  sd_iconst (pc := 237) (kt_tab_get kx_M_item 133 rfl) kc_i_1 <|
  sd_iadd (pc := 238) (kt_tab_get kx_M_item 134 rfl) <|
  (sd_drop (k := 1) kz_M_item_239)
noncomputable def kd_M_item_232 : kt_D := ki_iload 1 <| (ki_drop 1 kd_M_item_239)
theorem kz_M_item_232 : kt_Snd l kt_shM kb_M_item 3 RX7 (some .int) 1 0 0 false false 232 kd_M_item_232 :=
  sd_iload_n (pc := 232) (kt_tab_get kx_M_item 130 rfl) rfl <|
  sd_goto (pc := 233) (tgt := 239) (kt_tab_get kx_M_item 131 rfl) rfl (sd_drop (k := 1) kz_M_item_239)
noncomputable def kd_M_item_225 : kt_D := ki_aload 0 <| ki_get kt_shM 7 25 <| ki_if_eq (ki_drop 0 kd_M_item_236) (ki_drop 0 kd_M_item_232)
theorem kz_M_item_225 : kt_Snd l kt_shM kb_M_item 3 RX7 (some .int) 1 0 0 false false 225 kd_M_item_225 :=
  sd_aload_n (pc := 225) (kt_tab_get kx_M_item 127 rfl) rfl <|
  sd_get (pc := 226) (k := 25) (ci := 7) kt_hc7 kt_hin7 (by decide) (kt_tab_get kx_M_item 128 rfl) (kg_M_item_in _ (List.mem_of_getElem? (i := 4) rfl)) <|
  sd_if_eq (pc := 229) (tgt := 236) (kt_tab_get kx_M_item 129 rfl) rfl (sd_drop (k := 0) kz_M_item_236) (sd_drop (k := 0) kz_M_item_232)
noncomputable def kd_M_item_218 : kt_D := ki_aload 0 <| ki_iload 1 <| ki_push (.int 1) <| ki_iadd <| ki_callV kt_shM 7 1 kf_M_enter <| kd_M_item_225
theorem kz_M_item_218 : kt_Snd l kt_shM kb_M_item 3 RX7 (some .int) 1 0 0 false false 218 kd_M_item_218 :=
  sd_aload_n (pc := 218) (kt_tab_get kx_M_item 122 rfl) rfl <|
  sd_iload_n (pc := 219) (kt_tab_get kx_M_item 123 rfl) rfl <|
  sd_iconst (pc := 220) (kt_tab_get kx_M_item 124 rfl) kc_i_1 <|
  sd_iadd (pc := 221) (kt_tab_get kx_M_item 125 rfl) <|
  sd_callV (pc := 222) km_M_enter (by decide) kv_M_enter (ci := 7) kt_hc7 (by decide) (kt_tab_get kx_M_item 126 rfl) (kg_M_item_in _ (List.mem_of_getElem? (i := 5) rfl)) <|
  kz_M_item_225
noncomputable def kd_M_item_208 : kt_D := ki_put kt_shM 7 25 1 <| ki_aload 0 <| ki_get kt_shM 7 25 <| ki_if_ne kd_M_item_225 kd_M_item_218
theorem kz_M_item_208 : kt_Snd l kt_shM kb_M_item 3 RX7 (some .int) 1 0 0 false false 208 kd_M_item_208 :=
  sd_put (pc := 208) (k := 25) (ci := 7) kt_hc7 kt_hin7 tyX7_ok nmX7 (by decide) rfl rfl (Or.inr ⟨rfl, rfl⟩) (kt_tab_get kx_M_item 118 rfl) (kg_M_item_in _ (List.mem_of_getElem? (i := 4) rfl)) <|
  sd_aload_n (pc := 211) (kt_tab_get kx_M_item 119 rfl) rfl <|
  sd_get (pc := 212) (k := 25) (ci := 7) kt_hc7 kt_hin7 (by decide) (kt_tab_get kx_M_item 120 rfl) (kg_M_item_in _ (List.mem_of_getElem? (i := 4) rfl)) <|
  sd_if_ne (pc := 215) (tgt := 225) (kt_tab_get kx_M_item 121 rfl) rfl kz_M_item_225 kz_M_item_218
noncomputable def kd_M_item_207 : kt_D := ki_push (.int 0) <| kd_M_item_208
theorem kz_M_item_207 : kt_Snd l kt_shM kb_M_item 3 RX7 (some .int) 1 0 0 false false 207 kd_M_item_207 :=
  sd_iconst (pc := 207) (kt_tab_get kx_M_item 117 rfl) kc_i_0 <|
  kz_M_item_208
noncomputable def kd_M_item_203 : kt_D := ki_push (.int 1) <| kd_M_item_208
theorem kz_M_item_203 : kt_Snd l kt_shM kb_M_item 3 RX7 (some .int) 1 0 0 false false 203 kd_M_item_203 :=
  sd_iconst (pc := 203) (kt_tab_get kx_M_item 115 rfl) kc_i_1 <|
  sd_goto (pc := 204) (tgt := 208) (kt_tab_get kx_M_item 116 rfl) rfl kz_M_item_208
noncomputable def kd_M_item_197 : kt_D := ki_aload 0 <| ki_iload 1 <| ki_push (.int 3) <| ki_icmp_ne kd_M_item_207 kd_M_item_203
theorem kz_M_item_197 : kt_Snd l kt_shM kb_M_item 3 RX7 (some .int) 1 0 0 false false 197 kd_M_item_197 :=
  sd_aload_n (pc := 197) (kt_tab_get kx_M_item 111 rfl) rfl <|
  sd_iload_n (pc := 198) (kt_tab_get kx_M_item 112 rfl) rfl <|
  sd_iconst (pc := 199) (kt_tab_get kx_M_item 113 rfl) kc_i_3 <|
  sd_icmp_ne (pc := 200) (tgt := 207) (kt_tab_get kx_M_item 114 rfl) rfl kz_M_item_207 kz_M_item_203
noncomputable def kd_M_item_195 : kt_D := ki_iload 1 <| ki_iret
theorem kz_M_item_195 : kt_Snd l kt_shM kb_M_item 3 RX7 (some .int) 1 0 0 false false 195 kd_M_item_195 :=
  sd_iload_n (pc := 195) (kt_tab_get kx_M_item 109 rfl) rfl <|
  sd_iret (pc := 196) rfl (by decide) (kt_tab_get kx_M_item 110 rfl)
noncomputable def kd_M_item_187 : kt_D := ki_aload 0 <| ki_get kt_shM 7 23 <| ki_push (.int 5) <| ki_icmp_eq kd_M_item_197 (ki_drop 0 kd_M_item_195)
theorem kz_M_item_187 : kt_Snd l kt_shM kb_M_item 3 RX7 (some .int) 1 0 0 false false 187 kd_M_item_187 :=
  sd_aload_n (pc := 187) (kt_tab_get kx_M_item 105 rfl) rfl <|
  sd_get (pc := 188) (k := 23) (ci := 7) kt_hc7 kt_hin7 (by decide) (kt_tab_get kx_M_item 106 rfl) (kg_M_item_in _ (List.mem_of_getElem? (i := 6) rfl)) <|
  sd_iconst (pc := 191) (kt_tab_get kx_M_item 107 rfl) kc_i_5 <|
  sd_icmp_eq (pc := 192) (tgt := 197) (kt_tab_get kx_M_item 108 rfl) rfl kz_M_item_197 (sd_drop (k := 0) kz_M_item_195)
noncomputable def kd_M_item_179 : kt_D := ki_aload 0 <| ki_get kt_shM 7 23 <| ki_push (.int 4) <| ki_icmp_eq kd_M_item_197 kd_M_item_187
theorem kz_M_item_179 : kt_Snd l kt_shM kb_M_item 3 RX7 (some .int) 1 0 0 false false 179 kd_M_item_179 :=
  sd_aload_n (pc := 179) (kt_tab_get kx_M_item 101 rfl) rfl <|
  sd_get (pc := 180) (k := 23) (ci := 7) kt_hc7 kt_hin7 (by decide) (kt_tab_get kx_M_item 102 rfl) (kg_M_item_in _ (List.mem_of_getElem? (i := 6) rfl)) <|
  sd_iconst (pc := 183) (kt_tab_get kx_M_item 103 rfl) kc_i_4 <|
  sd_icmp_eq (pc := 184) (tgt := 197) (kt_tab_get kx_M_item 104 rfl) rfl kz_M_item_197 kz_M_item_187
noncomputable def kd_M_item_176 : kt_D := ki_put kt_shM 7 22 0 <| kd_M_item_179
theorem kz_M_item_176 : kt_Snd l kt_shM kb_M_item 3 RX7 (some .int) 1 0 0 false false 176 kd_M_item_176 :=
  sd_put (pc := 176) (k := 22) (ci := 7) kt_hc7 kt_hin7 tyX7_ok nmX7 (by decide) rfl rfl (Or.inl ⟨rfl, rfl⟩) (kt_tab_get kx_M_item 100 rfl) (kg_M_item_in _ (List.mem_of_getElem? (i := 7) rfl)) <|
  kz_M_item_179
noncomputable def kd_M_item_167 : kt_D := ki_aload 0 <| ki_get kt_shM 7 22 <| ki_aload 0 <| ki_get kt_shM 7 24 <| ki_iadd <| kd_M_item_176
theorem kz_M_item_167 : kt_Snd l kt_shM kb_M_item 3 RX7 (some .int) 1 0 0 false false 167 kd_M_item_167 :=
  sd_aload_n (pc := 167) (kt_tab_get kx_M_item 95 rfl) rfl <|
  sd_get (pc := 168) (k := 22) (ci := 7) kt_hc7 kt_hin7 (by decide) (kt_tab_get kx_M_item 96 rfl) (kg_M_item_in _ (List.mem_of_getElem? (i := 7) rfl)) <|
  sd_aload_n (pc := 171) (kt_tab_get kx_M_item 97 rfl) rfl <|
  sd_get (pc := 172) (k := 24) (ci := 7) kt_hc7 kt_hin7 (by decide) (kt_tab_get kx_M_item 98 rfl) (kg_M_item_in _ (List.mem_of_getElem? (i := 8) rfl)) <|
  sd_iadd (pc := 175) (kt_tab_get kx_M_item 99 rfl) <|
  kz_M_item_176
noncomputable def kd_M_item_163 : kt_D := ki_iload 2 <| (ki_drop 2 kd_M_item_176)
theorem kz_M_item_163 : kt_Snd l kt_shM kb_M_item 3 RX7 (some .int) 1 0 0 false false 163 kd_M_item_163 :=
  sd_iload_n (pc := 163) (kt_tab_get kx_M_item 93 rfl) rfl <|
  sd_goto (pc := 164) (tgt := 176) (kt_tab_get kx_M_item 94 rfl) rfl (sd_drop (k := 2) kz_M_item_176)
noncomputable def kd_M_item_152 : kt_D := ki_put kt_shM 7 25 1 <| ki_aload 0 <| ki_aload 0 <| ki_get kt_shM 7 25 <| ki_if_eq (ki_drop 2 kd_M_item_167) kd_M_item_163
theorem kz_M_item_152 : kt_Snd l kt_shM kb_M_item 3 RX7 (some .int) 1 0 0 false false 152 kd_M_item_152 :=
  sd_put (pc := 152) (k := 25) (ci := 7) kt_hc7 kt_hin7 tyX7_ok nmX7 (by decide) rfl rfl (Or.inr ⟨rfl, rfl⟩) (kt_tab_get kx_M_item 88 rfl) (kg_M_item_in _ (List.mem_of_getElem? (i := 4) rfl)) <|
  sd_aload_n (pc := 155) (kt_tab_get kx_M_item 89 rfl) rfl <|
  sd_aload_n (pc := 156) (kt_tab_get kx_M_item 90 rfl) rfl <|
  sd_get (pc := 157) (k := 25) (ci := 7) kt_hc7 kt_hin7 (by decide) (kt_tab_get kx_M_item 91 rfl) (kg_M_item_in _ (List.mem_of_getElem? (i := 4) rfl)) <|
  sd_if_eq (pc := 160) (tgt := 167) (kt_tab_get kx_M_item 92 rfl) rfl (sd_drop (k := 2) kz_M_item_167) kz_M_item_163
noncomputable def kd_M_item_151 : kt_D := ki_push (.int 0) <| kd_M_item_152
theorem kz_M_item_151 : kt_Snd l kt_shM kb_M_item 3 RX7 (some .int) 1 0 0 false false 151 kd_M_item_151 :=
  sd_iconst (pc := 151) (kt_tab_get kx_M_item 87 rfl) kc_i_0 <|
  kz_M_item_152
noncomputable def kd_M_item_147 : kt_D := ki_push (.int 1) <| kd_M_item_152
theorem kz_M_item_147 : kt_Snd l kt_shM kb_M_item 3 RX7 (some .int) 1 0 0 false false 147 kd_M_item_147 :=
  sd_iconst (pc := 147) (kt_tab_get kx_M_item 85 rfl) kc_i_1 <|
  sd_goto (pc := 148) (tgt := 152) (kt_tab_get kx_M_item 86 rfl) rfl kz_M_item_152
noncomputable def kd_M_item_139 : kt_D := ki_aload 0 <| ki_aload 0 <| ki_callV kt_shM 7 0 kf_M_string <| ki_if_ne kd_M_item_151 kd_M_item_147
theorem kz_M_item_139 : kt_Snd l kt_shM kb_M_item 3 RX7 (some .int) 1 0 0 false false 139 kd_M_item_139 :=
  sd_aload_n (pc := 139) (kt_tab_get kx_M_item 81 rfl) rfl <|
  sd_aload_n (pc := 140) (kt_tab_get kx_M_item 82 rfl) rfl <|
  sd_callV (pc := 141) km_M_string (by decide) kv_M_string (ci := 7) kt_hc7 (by decide) (kt_tab_get kx_M_item 83 rfl) (kg_M_item_in _ (List.mem_of_getElem? (i := 9) rfl)) <|
  sd_if_ne (pc := 144) (tgt := 151) (kt_tab_get kx_M_item 84 rfl) rfl kz_M_item_151 kz_M_item_147
noncomputable def kd_M_item_131 : kt_D := ki_aload 0 <| ki_get kt_shM 7 23 <| ki_push (.int 3) <| ki_icmp_ne (ki_drop 2 kd_M_item_179) kd_M_item_139
theorem kz_M_item_131 : kt_Snd l kt_shM kb_M_item 3 RX7 (some .int) 1 0 0 false false 131 kd_M_item_131 :=
  sd_aload_n (pc := 131) (kt_tab_get kx_M_item 77 rfl) rfl <|
  sd_get (pc := 132) (k := 23) (ci := 7) kt_hc7 kt_hin7 (by decide) (kt_tab_get kx_M_item 78 rfl) (kg_M_item_in _ (List.mem_of_getElem? (i := 6) rfl)) <|
  sd_iconst (pc := 135) (kt_tab_get kx_M_item 79 rfl) kc_i_3 <|
  sd_icmp_ne (pc := 136) (tgt := 179) (kt_tab_get kx_M_item 80 rfl) rfl (sd_drop (k := 2) kz_M_item_179) kz_M_item_139
noncomputable def kd_M_item_123 : kt_D := ki_aload 0 <| ki_get kt_shM 7 23 <| ki_push (.int 2) <| ki_icmp_eq kd_M_item_139 kd_M_item_131
theorem kz_M_item_123 : kt_Snd l kt_shM kb_M_item 3 RX7 (some .int) 1 0 0 false false 123 kd_M_item_123 :=
  sd_aload_n (pc := 123) (kt_tab_get kx_M_item 73 rfl) rfl <|
  sd_get (pc := 124) (k := 23) (ci := 7) kt_hc7 kt_hin7 (by decide) (kt_tab_get kx_M_item 74 rfl) (kg_M_item_in _ (List.mem_of_getElem? (i := 6) rfl)) <|
  sd_iconst (pc := 127) (kt_tab_get kx_M_item 75 rfl) kc_i_2 <|
  sd_icmp_eq (pc := 128) (tgt := 139) (kt_tab_get kx_M_item 76 rfl) rfl kz_M_item_139 kz_M_item_131
noncomputable def kd_M_item_111 : kt_D := ki_aload 0 <| ki_get kt_shM 7 35 <| ki_aload 0 <| ki_get kt_shM 7 30 <| ki_push (.int 1) <| ki_isub <| ki_push (.int 0) <| ki_zast kt_shM <| kd_M_item_123
theorem kz_M_item_111 : kt_Snd l kt_shM kb_M_item 3 RX7 (some .int) 1 0 0 false false 111 kd_M_item_111 :=
  sd_aload_n (pc := 111) (kt_tab_get kx_M_item 65 rfl) rfl <|
  sd_get (pc := 112) (k := 35) (ci := 7) kt_hc7 kt_hin7 (by decide) (kt_tab_get kx_M_item 66 rfl) (kg_M_item_in _ (List.mem_of_getElem? (i := 10) rfl)) <|
  sd_aload_n (pc := 115) (kt_tab_get kx_M_item 67 rfl) rfl <|
  sd_get (pc := 116) (k := 30) (ci := 7) kt_hc7 kt_hin7 (by decide) (kt_tab_get kx_M_item 68 rfl) (kg_M_item_in _ (List.mem_of_getElem? (i := 11) rfl)) <|
  sd_iconst (pc := 119) (kt_tab_get kx_M_item 69 rfl) kc_i_1 <|
  sd_isub (pc := 120) (kt_tab_get kx_M_item 70 rfl) <|
  sd_iconst (pc := 121) (kt_tab_get kx_M_item 71 rfl) kc_i_0 <|
  sd_zast (pc := 122) (kt_tab_get kx_M_item 72 rfl) <|
  kz_M_item_123
noncomputable def kd_M_item_104 : kt_D := ki_aload 0 <| ki_get kt_shM 7 23 <| ki_if_eq kd_M_item_123 kd_M_item_111
theorem kz_M_item_104 : kt_Snd l kt_shM kb_M_item 3 RX7 (some .int) 1 0 0 false false 104 kd_M_item_104 :=
  sd_aload_n (pc := 104) (kt_tab_get kx_M_item 62 rfl) rfl <|
  sd_get (pc := 105) (k := 23) (ci := 7) kt_hc7 kt_hin7 (by decide) (kt_tab_get kx_M_item 63 rfl) (kg_M_item_in _ (List.mem_of_getElem? (i := 6) rfl)) <|
  sd_if_eq (pc := 108) (tgt := 123) (kt_tab_get kx_M_item 64 rfl) rfl kz_M_item_123 kz_M_item_111
noncomputable def kd_M_item_99 : kt_D := ki_iload 1 <| ki_push (.int 2) <| ki_icmp_ne kd_M_item_123 kd_M_item_104
theorem kz_M_item_99 : kt_Snd l kt_shM kb_M_item 3 RX7 (some .int) 1 0 0 false false 99 kd_M_item_99 :=
  sd_iload_n (pc := 99) (kt_tab_get kx_M_item 59 rfl) rfl <|
  sd_iconst (pc := 100) (kt_tab_get kx_M_item 60 rfl) kc_i_2 <|
  sd_icmp_ne (pc := 101) (tgt := 123) (kt_tab_get kx_M_item 61 rfl) rfl kz_M_item_123 kz_M_item_104
noncomputable def kd_M_item_40 : kt_D := ki_aload 0 <| ki_get kt_shM 7 32 <| ki_aload 0 <| ki_get kt_shM 7 30 <| ki_aload 0 <| ki_get kt_shM 7 23 <| ki_iast kt_shM <| ki_aload 0 <| ki_get kt_shM 7 33 <| ki_aload 0 <| ki_get kt_shM 7 30 <| ki_aload 0 <| ki_get kt_shM 7 24 <| ki_iast kt_shM <| ki_aload 0 <| ki_get kt_shM 7 34 <| ki_aload 0 <| ki_get kt_shM 7 30 <| ki_aload 0 <| ki_get kt_shM 7 22 <| ki_iast kt_shM <| ki_aload 0 <| ki_get kt_shM 7 35 <| ki_aload 0 <| ki_get kt_shM 7 30 <| ki_push (.int 1) <| ki_zast kt_shM <| ki_aload 0 <| ki_dup <| ki_get kt_shM 7 30 <| ki_push (.int 1) <| ki_iadd <| ki_put kt_shM 7 30 0 <| kd_M_item_99
theorem kz_M_item_40 : kt_Snd l kt_shM kb_M_item 3 RX7 (some .int) 1 0 0 false false 40 kd_M_item_40 :=
  sd_aload_n (pc := 40) (kt_tab_get kx_M_item 26 rfl) rfl <|
  sd_get (pc := 41) (k := 32) (ci := 7) kt_hc7 kt_hin7 (by decide) (kt_tab_get kx_M_item 27 rfl) (kg_M_item_in _ (List.mem_of_getElem? (i := 12) rfl)) <|
  sd_aload_n (pc := 44) (kt_tab_get kx_M_item 28 rfl) rfl <|
  sd_get (pc := 45) (k := 30) (ci := 7) kt_hc7 kt_hin7 (by decide) (kt_tab_get kx_M_item 29 rfl) (kg_M_item_in _ (List.mem_of_getElem? (i := 11) rfl)) <|
  sd_aload_n (pc := 48) (kt_tab_get kx_M_item 30 rfl) rfl <|
  sd_get (pc := 49) (k := 23) (ci := 7) kt_hc7 kt_hin7 (by decide) (kt_tab_get kx_M_item 31 rfl) (kg_M_item_in _ (List.mem_of_getElem? (i := 6) rfl)) <|
  sd_iast (pc := 52) (kt_tab_get kx_M_item 32 rfl) <|
  sd_aload_n (pc := 53) (kt_tab_get kx_M_item 33 rfl) rfl <|
  sd_get (pc := 54) (k := 33) (ci := 7) kt_hc7 kt_hin7 (by decide) (kt_tab_get kx_M_item 34 rfl) (kg_M_item_in _ (List.mem_of_getElem? (i := 13) rfl)) <|
  sd_aload_n (pc := 57) (kt_tab_get kx_M_item 35 rfl) rfl <|
  sd_get (pc := 58) (k := 30) (ci := 7) kt_hc7 kt_hin7 (by decide) (kt_tab_get kx_M_item 36 rfl) (kg_M_item_in _ (List.mem_of_getElem? (i := 11) rfl)) <|
  sd_aload_n (pc := 61) (kt_tab_get kx_M_item 37 rfl) rfl <|
  sd_get (pc := 62) (k := 24) (ci := 7) kt_hc7 kt_hin7 (by decide) (kt_tab_get kx_M_item 38 rfl) (kg_M_item_in _ (List.mem_of_getElem? (i := 8) rfl)) <|
  sd_iast (pc := 65) (kt_tab_get kx_M_item 39 rfl) <|
  sd_aload_n (pc := 66) (kt_tab_get kx_M_item 40 rfl) rfl <|
  sd_get (pc := 67) (k := 34) (ci := 7) kt_hc7 kt_hin7 (by decide) (kt_tab_get kx_M_item 41 rfl) (kg_M_item_in _ (List.mem_of_getElem? (i := 14) rfl)) <|
  sd_aload_n (pc := 70) (kt_tab_get kx_M_item 42 rfl) rfl <|
  sd_get (pc := 71) (k := 30) (ci := 7) kt_hc7 kt_hin7 (by decide) (kt_tab_get kx_M_item 43 rfl) (kg_M_item_in _ (List.mem_of_getElem? (i := 11) rfl)) <|
  sd_aload_n (pc := 74) (kt_tab_get kx_M_item 44 rfl) rfl <|
  sd_get (pc := 75) (k := 22) (ci := 7) kt_hc7 kt_hin7 (by decide) (kt_tab_get kx_M_item 45 rfl) (kg_M_item_in _ (List.mem_of_getElem? (i := 7) rfl)) <|
  sd_iast (pc := 78) (kt_tab_get kx_M_item 46 rfl) <|
  sd_aload_n (pc := 79) (kt_tab_get kx_M_item 47 rfl) rfl <|
  sd_get (pc := 80) (k := 35) (ci := 7) kt_hc7 kt_hin7 (by decide) (kt_tab_get kx_M_item 48 rfl) (kg_M_item_in _ (List.mem_of_getElem? (i := 10) rfl)) <|
  sd_aload_n (pc := 83) (kt_tab_get kx_M_item 49 rfl) rfl <|
  sd_get (pc := 84) (k := 30) (ci := 7) kt_hc7 kt_hin7 (by decide) (kt_tab_get kx_M_item 50 rfl) (kg_M_item_in _ (List.mem_of_getElem? (i := 11) rfl)) <|
  sd_iconst (pc := 87) (kt_tab_get kx_M_item 51 rfl) kc_i_1 <|
  sd_zast (pc := 88) (kt_tab_get kx_M_item 52 rfl) <|
  sd_aload_n (pc := 89) (kt_tab_get kx_M_item 53 rfl) rfl <|
  sd_dup (pc := 90) (kt_tab_get kx_M_item 54 rfl) <|
  sd_get (pc := 91) (k := 30) (ci := 7) kt_hc7 kt_hin7 (by decide) (kt_tab_get kx_M_item 55 rfl) (kg_M_item_in _ (List.mem_of_getElem? (i := 11) rfl)) <|
  sd_iconst (pc := 94) (kt_tab_get kx_M_item 56 rfl) kc_i_1 <|
  sd_iadd (pc := 95) (kt_tab_get kx_M_item 57 rfl) <|
  sd_put (pc := 96) (k := 30) (ci := 7) kt_hc7 kt_hin7 tyX7_ok nmX7 (by decide) rfl rfl (Or.inl ⟨rfl, rfl⟩) (kt_tab_get kx_M_item 58 rfl) (kg_M_item_in _ (List.mem_of_getElem? (i := 11) rfl)) <|
  kz_M_item_99
noncomputable def kd_M_item_35 : kt_D := ki_iload 1 <| ki_push (.int 1) <| ki_icmp_ne kd_M_item_99 kd_M_item_40
theorem kz_M_item_35 : kt_Snd l kt_shM kb_M_item 3 RX7 (some .int) 1 0 0 false false 35 kd_M_item_35 :=
  sd_iload_n (pc := 35) (kt_tab_get kx_M_item 23 rfl) rfl <|
  sd_iconst (pc := 36) (kt_tab_get kx_M_item 24 rfl) kc_i_1 <|
  sd_icmp_ne (pc := 37) (tgt := 99) (kt_tab_get kx_M_item 25 rfl) rfl kz_M_item_99 kz_M_item_40
noncomputable def kd_M_item_33 : kt_D := ki_iload 1 <| ki_iret
theorem kz_M_item_33 : kt_Snd l kt_shM kb_M_item 3 RX7 (some .int) 1 0 0 false false 33 kd_M_item_33 :=
  sd_iload_n (pc := 33) (kt_tab_get kx_M_item 21 rfl) rfl <|
  sd_iret (pc := 34) rfl (by decide) (kt_tab_get kx_M_item 22 rfl)
noncomputable def kd_M_item_0 : kt_D := ki_aload 0 <| ki_get kt_shM 7 22 <| ki_istore 2 <| ki_aload 0 <| ki_callV kt_shM 7 0 kf_M_head <| ki_aload 0 <| ki_get kt_shM 7 27 <| ki_iload 1 <| ki_dup2 <| ki_iald kt_shM <| ki_push (.int 1) <| ki_isub <| ki_iast kt_shM <| ki_aload 0 <| ki_get kt_shM 7 29 <| ki_iload 1 <| ki_push (.int 1) <| ki_zast kt_shM <| ki_aload 0 <| ki_get kt_shM 7 25 <| ki_if_eq kd_M_item_35 (ki_drop 2 (ki_drop 0 kd_M_item_33))
theorem kz_M_item_0 : kt_Snd l kt_shM kb_M_item 3 RX7 (some .int) 1 0 0 false false 0 kd_M_item_0 :=
  sd_aload_n (pc := 0) (kt_tab_get kx_M_item 0 rfl) rfl <|
  sd_get (pc := 1) (k := 22) (ci := 7) kt_hc7 kt_hin7 (by decide) (kt_tab_get kx_M_item 1 rfl) (kg_M_item_in _ (List.mem_of_getElem? (i := 7) rfl)) <|
  sd_istore_n (pc := 4) (kt_tab_get kx_M_item 2 rfl) rfl (by decide) <|
  sd_aload_n (pc := 5) (kt_tab_get kx_M_item 3 rfl) rfl <|
  sd_callV (pc := 6) km_M_head (by decide) kv_M_head (ci := 7) kt_hc7 (by decide) (kt_tab_get kx_M_item 4 rfl) (kg_M_item_in _ (List.mem_of_getElem? (i := 15) rfl)) <|
  sd_aload_n (pc := 9) (kt_tab_get kx_M_item 5 rfl) rfl <|
  sd_get (pc := 10) (k := 27) (ci := 7) kt_hc7 kt_hin7 (by decide) (kt_tab_get kx_M_item 6 rfl) (kg_M_item_in _ (List.mem_of_getElem? (i := 16) rfl)) <|
  sd_iload_n (pc := 13) (kt_tab_get kx_M_item 7 rfl) rfl <|
  sd_dup2 (pc := 14) (kt_tab_get kx_M_item 8 rfl) <|
  sd_iald (pc := 15) (kt_tab_get kx_M_item 9 rfl) <|
  sd_iconst (pc := 16) (kt_tab_get kx_M_item 10 rfl) kc_i_1 <|
  sd_isub (pc := 17) (kt_tab_get kx_M_item 11 rfl) <|
  sd_iast (pc := 18) (kt_tab_get kx_M_item 12 rfl) <|
  sd_aload_n (pc := 19) (kt_tab_get kx_M_item 13 rfl) rfl <|
  sd_get (pc := 20) (k := 29) (ci := 7) kt_hc7 kt_hin7 (by decide) (kt_tab_get kx_M_item 14 rfl) (kg_M_item_in _ (List.mem_of_getElem? (i := 17) rfl)) <|
  sd_iload_n (pc := 23) (kt_tab_get kx_M_item 15 rfl) rfl <|
  sd_iconst (pc := 24) (kt_tab_get kx_M_item 16 rfl) kc_i_1 <|
  sd_zast (pc := 25) (kt_tab_get kx_M_item 17 rfl) <|
  sd_aload_n (pc := 26) (kt_tab_get kx_M_item 18 rfl) rfl <|
  sd_get (pc := 27) (k := 25) (ci := 7) kt_hc7 kt_hin7 (by decide) (kt_tab_get kx_M_item 19 rfl) (kg_M_item_in _ (List.mem_of_getElem? (i := 4) rfl)) <|
  sd_if_eq (pc := 30) (tgt := 35) (kt_tab_get kx_M_item 20 rfl) rfl kz_M_item_35 (sd_drop (k := 2) (sd_drop (k := 0) kz_M_item_33))
noncomputable def kf_M_item : kt_F := kt_run 3 kd_M_item_0
theorem km_M_item : kt_M l kt_shM ky_M_item kb_M_item 3 (some .int) 1 false kf_M_item := kt_method (by decide) rfl kz_M_item_0
noncomputable def kd_M_formed_44 : kt_D := ki_push (.int 0) <| ki_zret
theorem kz_M_formed_44 : kt_Snd l kt_shM kb_M_formed 2 RX7 (some .boolean) 2 0 0 false false 44 kd_M_formed_44 :=
  sd_iconst (pc := 44) (kt_tab_get kx_M_formed 24 rfl) kc_i_0 <|
  sd_zret (pc := 45) rfl (by decide) (kt_tab_get kx_M_formed 25 rfl)
noncomputable def kd_M_formed_137 : kt_D := ki_zret
theorem kz_M_formed_137 : kt_Snd l kt_shM kb_M_formed 2 RX7 (some .boolean) 2 0 0 false false 137 kd_M_formed_137 :=
  sd_zret (pc := 137) rfl (by decide) (kt_tab_get kx_M_formed 73 rfl)
noncomputable def kd_M_formed_136 : kt_D := ki_push (.int 0) <| kd_M_formed_137
theorem kz_M_formed_136 : kt_Snd l kt_shM kb_M_formed 2 RX7 (some .boolean) 2 0 0 false false 136 kd_M_formed_136 :=
  sd_iconst (pc := 136) (kt_tab_get kx_M_formed 72 rfl) kc_i_0 <|
  kz_M_formed_137
noncomputable def kd_M_formed_132 : kt_D := ki_push (.int 1) <| kd_M_formed_137
theorem kz_M_formed_132 : kt_Snd l kt_shM kb_M_formed 2 RX7 (some .boolean) 2 0 0 false false 132 kd_M_formed_132 :=
  sd_iconst (pc := 132) (kt_tab_get kx_M_formed 70 rfl) kc_i_1 <|
  sd_goto (pc := 133) (tgt := 137) (kt_tab_get kx_M_formed 71 rfl) rfl kz_M_formed_137
noncomputable def kd_M_formed_121 : kt_D := ki_aload 0 <| ki_get kt_shM 7 22 <| ki_aload 0 <| ki_get kt_shM 7 10 <| ki_icmp_ne (ki_drop 0 kd_M_formed_136) (ki_drop 0 kd_M_formed_132)
theorem kz_M_formed_121 : kt_Snd l kt_shM kb_M_formed 2 RX7 (some .boolean) 2 0 0 false false 121 kd_M_formed_121 :=
  sd_aload_n (pc := 121) (kt_tab_get kx_M_formed 65 rfl) rfl <|
  sd_get (pc := 122) (k := 22) (ci := 7) kt_hc7 kt_hin7 (by decide) (kt_tab_get kx_M_formed 66 rfl) (kg_M_formed_in _ (List.mem_of_getElem? (i := 4) rfl)) <|
  sd_aload_n (pc := 125) (kt_tab_get kx_M_formed 67 rfl) rfl <|
  sd_get (pc := 126) (k := 10) (ci := 7) kt_hc7 kt_hin7 (by decide) (kt_tab_get kx_M_formed 68 rfl) (kg_M_formed_in _ (List.mem_of_getElem? (i := 5) rfl)) <|
  sd_icmp_ne (pc := 129) (tgt := 136) (kt_tab_get kx_M_formed 69 rfl) rfl (sd_drop (k := 0) kz_M_formed_136) (sd_drop (k := 0) kz_M_formed_132)
noncomputable def kd_M_formed_114 : kt_D := ki_aload 0 <| ki_get kt_shM 7 25 <| ki_if_ne (ki_drop 0 kd_M_formed_136) kd_M_formed_121
theorem kz_M_formed_114 : kt_Snd l kt_shM kb_M_formed 2 RX7 (some .boolean) 2 0 0 false false 114 kd_M_formed_114 :=
  sd_aload_n (pc := 114) (kt_tab_get kx_M_formed 62 rfl) rfl <|
  sd_get (pc := 115) (k := 25) (ci := 7) kt_hc7 kt_hin7 (by decide) (kt_tab_get kx_M_formed 63 rfl) (kg_M_formed_in _ (List.mem_of_getElem? (i := 6) rfl)) <|
  sd_if_ne (pc := 118) (tgt := 136) (kt_tab_get kx_M_formed 64 rfl) rfl (sd_drop (k := 0) kz_M_formed_136) kz_M_formed_121
noncomputable def kd_M_formed_105 (kh_53 : kt_D) : kt_D := ki_aload 0 <| ki_iload 1 <| ki_callV kt_shM 7 1 kf_M_item <| ki_istore 1 <| kh_53
theorem kz_M_formed_105 {kh_53 : kt_D} (zh_53 : kt_Snd l kt_shM kb_M_formed 2 RX7 (some .boolean) 2 0 0 false false 53 kh_53) : kt_Snd l kt_shM kb_M_formed 2 RX7 (some .boolean) 2 0 0 false false 105 (kd_M_formed_105 kh_53) :=
  sd_aload_n (pc := 105) (kt_tab_get kx_M_formed 57 rfl) rfl <|
  sd_iload_n (pc := 106) (kt_tab_get kx_M_formed 58 rfl) rfl <|
  sd_callV (pc := 107) km_M_item (by decide) kv_M_item (ci := 7) kt_hc7 (by decide) (kt_tab_get kx_M_formed 59 rfl) (kg_M_formed_in _ (List.mem_of_getElem? (i := 7) rfl)) <|
  sd_istore_n (pc := 110) (kt_tab_get kx_M_formed 60 rfl) rfl (by decide) <|
  sd_goto (pc := 111) (tgt := 53) (kt_tab_get kx_M_formed 61 rfl) rfl zh_53
noncomputable def kd_M_formed_97 (kh_53 : kt_D) : kt_D := ki_aload 0 <| ki_iload 1 <| ki_callV kt_shM 7 1 kf_M_readKey <| kh_53
theorem kz_M_formed_97 {kh_53 : kt_D} (zh_53 : kt_Snd l kt_shM kb_M_formed 2 RX7 (some .boolean) 2 0 0 false false 53 kh_53) : kt_Snd l kt_shM kb_M_formed 2 RX7 (some .boolean) 2 0 0 false false 97 (kd_M_formed_97 kh_53) :=
  sd_aload_n (pc := 97) (kt_tab_get kx_M_formed 53 rfl) rfl <|
  sd_iload_n (pc := 98) (kt_tab_get kx_M_formed 54 rfl) rfl <|
  sd_callV (pc := 99) km_M_readKey (by decide) kv_M_readKey (ci := 7) kt_hc7 (by decide) (kt_tab_get kx_M_formed 55 rfl) (kg_M_formed_in _ (List.mem_of_getElem? (i := 8) rfl)) <|
  sd_goto (pc := 102) (tgt := 53) (kt_tab_get kx_M_formed 56 rfl) rfl zh_53
noncomputable def kd_M_formed_88 (kh_53 : kt_D) : kt_D := ki_aload 0 <| ki_get kt_shM 7 29 <| ki_iload 1 <| ki_zald kt_shM <| ki_if_eq (kd_M_formed_105 kh_53) (kd_M_formed_97 kh_53)
theorem kz_M_formed_88 {kh_53 : kt_D} (zh_53 : kt_Snd l kt_shM kb_M_formed 2 RX7 (some .boolean) 2 0 0 false false 53 kh_53) : kt_Snd l kt_shM kb_M_formed 2 RX7 (some .boolean) 2 0 0 false false 88 (kd_M_formed_88 kh_53) :=
  sd_aload_n (pc := 88) (kt_tab_get kx_M_formed 48 rfl) rfl <|
  sd_get (pc := 89) (k := 29) (ci := 7) kt_hc7 kt_hin7 (by decide) (kt_tab_get kx_M_formed 49 rfl) (kg_M_formed_in _ (List.mem_of_getElem? (i := 9) rfl)) <|
  sd_iload_n (pc := 92) (kt_tab_get kx_M_formed 50 rfl) rfl <|
  sd_zald (pc := 93) (kt_tab_get kx_M_formed 51 rfl) <|
  sd_if_eq (pc := 94) (tgt := 105) (kt_tab_get kx_M_formed 52 rfl) rfl (kz_M_formed_105 zh_53) (kz_M_formed_97 zh_53)
noncomputable def kd_M_formed_79 (kh_53 : kt_D) : kt_D := ki_aload 0 <| ki_get kt_shM 7 26 <| ki_iload 1 <| ki_zald kt_shM <| ki_if_eq (kd_M_formed_105 kh_53) (kd_M_formed_88 kh_53)
theorem kz_M_formed_79 {kh_53 : kt_D} (zh_53 : kt_Snd l kt_shM kb_M_formed 2 RX7 (some .boolean) 2 0 0 false false 53 kh_53) : kt_Snd l kt_shM kb_M_formed 2 RX7 (some .boolean) 2 0 0 false false 79 (kd_M_formed_79 kh_53) :=
  sd_aload_n (pc := 79) (kt_tab_get kx_M_formed 43 rfl) rfl <|
  sd_get (pc := 80) (k := 26) (ci := 7) kt_hc7 kt_hin7 (by decide) (kt_tab_get kx_M_formed 44 rfl) (kg_M_formed_in _ (List.mem_of_getElem? (i := 10) rfl)) <|
  sd_iload_n (pc := 83) (kt_tab_get kx_M_formed 45 rfl) rfl <|
  sd_zald (pc := 84) (kt_tab_get kx_M_formed 46 rfl) <|
  sd_if_eq (pc := 85) (tgt := 105) (kt_tab_get kx_M_formed 47 rfl) rfl (kz_M_formed_105 zh_53) (kz_M_formed_88 zh_53)
noncomputable def kd_M_formed_73 (kh_53 : kt_D) : kt_D := ki_iinc 1 (-1) <| kh_53
theorem kz_M_formed_73 {kh_53 : kt_D} (zh_53 : kt_Snd l kt_shM kb_M_formed 2 RX7 (some .boolean) 2 0 0 false false 53 kh_53) : kt_Snd l kt_shM kb_M_formed 2 RX7 (some .boolean) 2 0 0 false false 73 (kd_M_formed_73 kh_53) :=
  sd_iinc (pc := 73) (kt_tab_get kx_M_formed 41 rfl) kc_i_m1 (by decide) <|
  sd_goto (pc := 76) (tgt := 53) (kt_tab_get kx_M_formed 42 rfl) rfl zh_53
noncomputable def kd_M_formed_64 (kh_53 : kt_D) : kt_D := ki_aload 0 <| ki_get kt_shM 7 27 <| ki_iload 1 <| ki_iald kt_shM <| ki_if_ne (kd_M_formed_79 kh_53) (kd_M_formed_73 kh_53)
theorem kz_M_formed_64 {kh_53 : kt_D} (zh_53 : kt_Snd l kt_shM kb_M_formed 2 RX7 (some .boolean) 2 0 0 false false 53 kh_53) : kt_Snd l kt_shM kb_M_formed 2 RX7 (some .boolean) 2 0 0 false false 64 (kd_M_formed_64 kh_53) :=
  sd_aload_n (pc := 64) (kt_tab_get kx_M_formed 36 rfl) rfl <|
  sd_get (pc := 65) (k := 27) (ci := 7) kt_hc7 kt_hin7 (by decide) (kt_tab_get kx_M_formed 37 rfl) (kg_M_formed_in _ (List.mem_of_getElem? (i := 11) rfl)) <|
  sd_iload_n (pc := 68) (kt_tab_get kx_M_formed 38 rfl) rfl <|
  sd_iald (pc := 69) (kt_tab_get kx_M_formed 39 rfl) <|
  sd_if_ne (pc := 70) (tgt := 79) (kt_tab_get kx_M_formed 40 rfl) rfl (kz_M_formed_79 zh_53) (kz_M_formed_73 zh_53)
noncomputable def kd_M_formed_57 (kh_53 : kt_D) : kt_D := ki_aload 0 <| ki_get kt_shM 7 25 <| ki_if_ne (ki_drop 1 kd_M_formed_114) (kd_M_formed_64 kh_53)
theorem kz_M_formed_57 {kh_53 : kt_D} (zh_53 : kt_Snd l kt_shM kb_M_formed 2 RX7 (some .boolean) 2 0 0 false false 53 kh_53) : kt_Snd l kt_shM kb_M_formed 2 RX7 (some .boolean) 2 0 0 false false 57 (kd_M_formed_57 kh_53) :=
  sd_aload_n (pc := 57) (kt_tab_get kx_M_formed 33 rfl) rfl <|
  sd_get (pc := 58) (k := 25) (ci := 7) kt_hc7 kt_hin7 (by decide) (kt_tab_get kx_M_formed 34 rfl) (kg_M_formed_in _ (List.mem_of_getElem? (i := 6) rfl)) <|
  sd_if_ne (pc := 61) (tgt := 114) (kt_tab_get kx_M_formed 35 rfl) rfl (sd_drop (k := 1) kz_M_formed_114) (kz_M_formed_64 zh_53)
noncomputable def kd_M_formed_53b (kh_53 : kt_D) : kt_D := ki_iload 1 <| ki_if_le (ki_drop 1 kd_M_formed_114) (kd_M_formed_57 kh_53)
theorem kz_M_formed_53b {kh_53 : kt_D} (zh_53 : kt_Snd l kt_shM kb_M_formed 2 RX7 (some .boolean) 2 0 0 false false 53 kh_53) : kt_Snd l kt_shM kb_M_formed 2 RX7 (some .boolean) 2 0 0 false false 53 (kd_M_formed_53b kh_53) :=
  sd_iload_n (pc := 53) (kt_tab_get kx_M_formed 31 rfl) rfl <|
  sd_if_le (pc := 54) (tgt := 114) (kt_tab_get kx_M_formed 32 rfl) rfl (sd_drop (k := 1) kz_M_formed_114) (kz_M_formed_57 zh_53)
noncomputable def kd_M_formed_53 (n : Nat) : kt_D := Nat.rec (fun _ _ _ => none) (fun _ ih => kd_M_formed_53b ih) n
theorem kz_M_formed_53 (n : Nat) : kt_Snd l kt_shM kb_M_formed 2 RX7 (some .boolean) 2 0 0 false false 53 (kd_M_formed_53 n) := by
  induction n with
  | zero => exact sd_fail
  | succ n ih => exact kz_M_formed_53b ih
noncomputable def kd_M_formed_46 : kt_D := ki_aload 0 <| ki_push (.int 1) <| ki_callV kt_shM 7 1 kf_M_enter <| ki_push (.int 1) <| ki_istore 1 <| (kd_M_formed_53 100)
theorem kz_M_formed_46 : kt_Snd l kt_shM kb_M_formed 2 RX7 (some .boolean) 2 0 0 false false 46 kd_M_formed_46 :=
  sd_aload_n (pc := 46) (kt_tab_get kx_M_formed 26 rfl) rfl <|
  sd_iconst (pc := 47) (kt_tab_get kx_M_formed 27 rfl) kc_i_1 <|
  sd_callV (pc := 48) km_M_enter (by decide) kv_M_enter (ci := 7) kt_hc7 (by decide) (kt_tab_get kx_M_formed 28 rfl) (kg_M_formed_in _ (List.mem_of_getElem? (i := 12) rfl)) <|
  sd_iconst (pc := 51) (kt_tab_get kx_M_formed 29 rfl) kc_i_1 <|
  sd_istore_n (pc := 52) (kt_tab_get kx_M_formed 30 rfl) rfl (by decide) <|
  (kz_M_formed_53 100)
noncomputable def kd_M_formed_36 : kt_D := ki_aload 0 <| ki_get kt_shM 7 23 <| ki_push (.int 5) <| ki_icmp_eq kd_M_formed_46 (ki_drop 0 kd_M_formed_44)
theorem kz_M_formed_36 : kt_Snd l kt_shM kb_M_formed 2 RX7 (some .boolean) 2 0 0 false false 36 kd_M_formed_36 :=
  sd_aload_n (pc := 36) (kt_tab_get kx_M_formed 20 rfl) rfl <|
  sd_get (pc := 37) (k := 23) (ci := 7) kt_hc7 kt_hin7 (by decide) (kt_tab_get kx_M_formed 21 rfl) (kg_M_formed_in _ (List.mem_of_getElem? (i := 13) rfl)) <|
  sd_iconst (pc := 40) (kt_tab_get kx_M_formed 22 rfl) kc_i_5 <|
  sd_icmp_eq (pc := 41) (tgt := 46) (kt_tab_get kx_M_formed 23 rfl) rfl kz_M_formed_46 (sd_drop (k := 0) kz_M_formed_44)
noncomputable def kd_M_formed_25 : kt_D := ki_aload 0 <| ki_callV kt_shM 7 0 kf_M_head <| ki_aload 0 <| ki_get kt_shM 7 25 <| ki_if_ne (ki_drop 0 kd_M_formed_44) kd_M_formed_36
theorem kz_M_formed_25 : kt_Snd l kt_shM kb_M_formed 2 RX7 (some .boolean) 2 0 0 false false 25 kd_M_formed_25 :=
  sd_aload_n (pc := 25) (kt_tab_get kx_M_formed 15 rfl) rfl <|
  sd_callV (pc := 26) km_M_head (by decide) kv_M_head (ci := 7) kt_hc7 (by decide) (kt_tab_get kx_M_formed 16 rfl) (kg_M_formed_in _ (List.mem_of_getElem? (i := 14) rfl)) <|
  sd_aload_n (pc := 29) (kt_tab_get kx_M_formed 17 rfl) rfl <|
  sd_get (pc := 30) (k := 25) (ci := 7) kt_hc7 kt_hin7 (by decide) (kt_tab_get kx_M_formed 18 rfl) (kg_M_formed_in _ (List.mem_of_getElem? (i := 6) rfl)) <|
  sd_if_ne (pc := 33) (tgt := 44) (kt_tab_get kx_M_formed 19 rfl) rfl (sd_drop (k := 0) kz_M_formed_44) kz_M_formed_36
noncomputable def kd_M_formed_23 : kt_D := ki_push (.int 1) <| ki_zret
theorem kz_M_formed_23 : kt_Snd l kt_shM kb_M_formed 2 RX7 (some .boolean) 2 0 0 false false 23 kd_M_formed_23 :=
  sd_iconst (pc := 23) (kt_tab_get kx_M_formed 13 rfl) kc_i_1 <|
  sd_zret (pc := 24) rfl (by decide) (kt_tab_get kx_M_formed 14 rfl)
noncomputable def kd_M_formed_0 : kt_D := ki_aload 0 <| ki_push (.int 0) <| ki_put kt_shM 7 30 0 <| ki_aload 0 <| ki_push (.int 1) <| ki_put kt_shM 7 22 0 <| ki_aload 0 <| ki_push (.int 0) <| ki_put kt_shM 7 25 1 <| ki_aload 0 <| ki_get kt_shM 7 10 <| ki_push (.int 1) <| ki_icmp_ne kd_M_formed_25 (ki_drop 0 kd_M_formed_23)
theorem kz_M_formed_0 : kt_Snd l kt_shM kb_M_formed 2 RX7 (some .boolean) 2 0 0 false false 0 kd_M_formed_0 :=
  sd_aload_n (pc := 0) (kt_tab_get kx_M_formed 0 rfl) rfl <|
  sd_iconst (pc := 1) (kt_tab_get kx_M_formed 1 rfl) kc_i_0 <|
  sd_put (pc := 2) (k := 30) (ci := 7) kt_hc7 kt_hin7 tyX7_ok nmX7 (by decide) rfl rfl (Or.inl ⟨rfl, rfl⟩) (kt_tab_get kx_M_formed 2 rfl) (kg_M_formed_in _ (List.mem_of_getElem? (i := 15) rfl)) <|
  sd_aload_n (pc := 5) (kt_tab_get kx_M_formed 3 rfl) rfl <|
  sd_iconst (pc := 6) (kt_tab_get kx_M_formed 4 rfl) kc_i_1 <|
  sd_put (pc := 7) (k := 22) (ci := 7) kt_hc7 kt_hin7 tyX7_ok nmX7 (by decide) rfl rfl (Or.inl ⟨rfl, rfl⟩) (kt_tab_get kx_M_formed 5 rfl) (kg_M_formed_in _ (List.mem_of_getElem? (i := 4) rfl)) <|
  sd_aload_n (pc := 10) (kt_tab_get kx_M_formed 6 rfl) rfl <|
  sd_iconst (pc := 11) (kt_tab_get kx_M_formed 7 rfl) kc_i_0 <|
  sd_put (pc := 12) (k := 25) (ci := 7) kt_hc7 kt_hin7 tyX7_ok nmX7 (by decide) rfl rfl (Or.inr ⟨rfl, rfl⟩) (kt_tab_get kx_M_formed 8 rfl) (kg_M_formed_in _ (List.mem_of_getElem? (i := 6) rfl)) <|
  sd_aload_n (pc := 15) (kt_tab_get kx_M_formed 9 rfl) rfl <|
  sd_get (pc := 16) (k := 10) (ci := 7) kt_hc7 kt_hin7 (by decide) (kt_tab_get kx_M_formed 10 rfl) (kg_M_formed_in _ (List.mem_of_getElem? (i := 5) rfl)) <|
  sd_iconst (pc := 19) (kt_tab_get kx_M_formed 11 rfl) kc_i_1 <|
  sd_icmp_ne (pc := 20) (tgt := 25) (kt_tab_get kx_M_formed 12 rfl) rfl kz_M_formed_25 (sd_drop (k := 0) kz_M_formed_23)
noncomputable def kf_M_formed : kt_F := kt_run 2 kd_M_formed_0
theorem km_M_formed : kt_M l kt_shM ky_M_formed kb_M_formed 2 (some .boolean) 2 false kf_M_formed := kt_method (by decide) rfl kz_M_formed_0
noncomputable def kd_M_find_28 : kt_D := ki_push (.int (-1)) <| ki_iret
theorem kz_M_find_28 : kt_Snd l kt_shM kb_M_find 3 RX7 (some .int) 0 0 0 true true 28 kd_M_find_28 :=
  sd_iconst (pc := 28) (kt_tab_get kx_M_find 16 rfl) kc_i_m1 <|
  sd_iret (pc := 29) rfl (by decide) (kt_tab_get kx_M_find 17 rfl)
noncomputable def kd_M_find_22 (kh_2 : kt_D) : kt_D := ki_iinc 2 1 <| kh_2
theorem kz_M_find_22 {kh_2 : kt_D} (zh_2 : kt_Snd l kt_shM kb_M_find 3 RX7 (some .int) 0 0 0 true true 2 kh_2) : kt_Snd l kt_shM kb_M_find 3 RX7 (some .int) 0 0 0 true true 22 (kd_M_find_22 kh_2) :=
  sd_iinc (pc := 22) (kt_tab_get kx_M_find 14 rfl) kc_i_1 (by decide) <|
  sd_goto (pc := 25) (tgt := 2) (kt_tab_get kx_M_find 15 rfl) rfl zh_2
noncomputable def kd_M_find_20 : kt_D := ki_iload 2 <| ki_iret
theorem kz_M_find_20 : kt_Snd l kt_shM kb_M_find 3 RX7 (some .int) 0 0 0 true true 20 kd_M_find_20 :=
  sd_iload_n (pc := 20) (kt_tab_get kx_M_find 12 rfl) rfl <|
  sd_iret (pc := 21) rfl (by decide) (kt_tab_get kx_M_find 13 rfl)
noncomputable def kd_M_find_10 (kh_2 : kt_D) : kt_D := ki_aload 0 <| ki_get kt_shM 7 31 <| ki_iload 2 <| ki_iald kt_shM <| ki_iload 1 <| ki_icmp_ne (kd_M_find_22 kh_2) (ki_drop 1 (ki_drop 0 kd_M_find_20))
theorem kz_M_find_10 {kh_2 : kt_D} (zh_2 : kt_Snd l kt_shM kb_M_find 3 RX7 (some .int) 0 0 0 true true 2 kh_2) : kt_Snd l kt_shM kb_M_find 3 RX7 (some .int) 0 0 0 true true 10 (kd_M_find_10 kh_2) :=
  sd_aload_n (pc := 10) (kt_tab_get kx_M_find 6 rfl) rfl <|
  sd_get (pc := 11) (k := 31) (ci := 7) kt_hc7 kt_hin7 (by decide) (kt_tab_get kx_M_find 7 rfl) (kg_M_find_in _ (List.mem_of_getElem? (i := 4) rfl)) <|
  sd_iload_n (pc := 14) (kt_tab_get kx_M_find 8 rfl) rfl <|
  sd_iald (pc := 15) (kt_tab_get kx_M_find 9 rfl) <|
  sd_iload_n (pc := 16) (kt_tab_get kx_M_find 10 rfl) rfl <|
  sd_icmp_ne (pc := 17) (tgt := 22) (kt_tab_get kx_M_find 11 rfl) rfl (kz_M_find_22 zh_2) (sd_drop (k := 1) (sd_drop (k := 0) kz_M_find_20))
noncomputable def kd_M_find_2b (kh_2 : kt_D) : kt_D := ki_iload 2 <| ki_aload 0 <| ki_get kt_shM 7 30 <| ki_icmp_ge (ki_drop 2 (ki_drop 1 (ki_drop 0 kd_M_find_28))) (kd_M_find_10 kh_2)
theorem kz_M_find_2b {kh_2 : kt_D} (zh_2 : kt_Snd l kt_shM kb_M_find 3 RX7 (some .int) 0 0 0 true true 2 kh_2) : kt_Snd l kt_shM kb_M_find 3 RX7 (some .int) 0 0 0 true true 2 (kd_M_find_2b kh_2) :=
  sd_iload_n (pc := 2) (kt_tab_get kx_M_find 2 rfl) rfl <|
  sd_aload_n (pc := 3) (kt_tab_get kx_M_find 3 rfl) rfl <|
  sd_get (pc := 4) (k := 30) (ci := 7) kt_hc7 kt_hin7 (by decide) (kt_tab_get kx_M_find 4 rfl) (kg_M_find_in _ (List.mem_of_getElem? (i := 5) rfl)) <|
  sd_icmp_ge (pc := 7) (tgt := 28) (kt_tab_get kx_M_find 5 rfl) rfl (sd_drop (k := 2) (sd_drop (k := 1) (sd_drop (k := 0) kz_M_find_28))) (kz_M_find_10 zh_2)
noncomputable def kd_M_find_2 (n : Nat) : kt_D := Nat.rec (fun _ _ _ => none) (fun _ ih => kd_M_find_2b ih) n
theorem kz_M_find_2 (n : Nat) : kt_Snd l kt_shM kb_M_find 3 RX7 (some .int) 0 0 0 true true 2 (kd_M_find_2 n) := by
  induction n with
  | zero => exact sd_fail
  | succ n ih => exact kz_M_find_2b ih
noncomputable def kd_M_find_0 : kt_D := ki_push (.int 0) <| ki_istore 2 <| (kd_M_find_2 100)
theorem kz_M_find_0 : kt_Snd l kt_shM kb_M_find 3 RX7 (some .int) 0 0 0 true true 0 kd_M_find_0 :=
  sd_iconst (pc := 0) (kt_tab_get kx_M_find 0 rfl) kc_i_0 <|
  sd_istore_n (pc := 1) (kt_tab_get kx_M_find 1 rfl) rfl (by decide) <|
  (kz_M_find_2 100)
noncomputable def kf_M_find : kt_F := kt_run 3 kd_M_find_0
theorem km_M_find : kt_M l kt_shM ky_M_find kb_M_find 3 (some .int) 0 true kf_M_find := kt_method (by decide) rfl kz_M_find_0
noncomputable def kd_M_is_39 : kt_D := ki_zret
theorem kz_M_is_39 : kt_Snd l kt_shM kb_M_is 4 RX7 (some .boolean) 1 0 0 true true 39 kd_M_is_39 :=
  sd_zret (pc := 39) rfl (by decide) (kt_tab_get kx_M_is 23 rfl)
noncomputable def kd_M_is_34 : kt_D := ki_push (.int 1) <| kd_M_is_39
theorem kz_M_is_34 : kt_Snd l kt_shM kb_M_is 4 RX7 (some .boolean) 1 0 0 true true 34 kd_M_is_34 :=
  sd_iconst (pc := 34) (kt_tab_get kx_M_is 20 rfl) kc_i_1 <|
  sd_goto (pc := 35) (tgt := 39) (kt_tab_get kx_M_is 21 rfl) rfl kz_M_is_39
noncomputable def kd_M_is_38 : kt_D := ki_push (.int 0) <| kd_M_is_39
theorem kz_M_is_38 : kt_Snd l kt_shM kb_M_is 4 RX7 (some .boolean) 1 0 0 true true 38 kd_M_is_38 :=
  sd_iconst (pc := 38) (kt_tab_get kx_M_is 22 rfl) kc_i_0 <|
  kz_M_is_39
noncomputable def kd_M_is_25 : kt_D := ki_aload 0 <| ki_get kt_shM 7 35 <| ki_iload 3 <| ki_zald kt_shM <| ki_if_eq (ki_drop 3 (ki_drop 0 kd_M_is_38)) (ki_drop 3 (ki_drop 0 kd_M_is_34))
theorem kz_M_is_25 : kt_Snd l kt_shM kb_M_is 4 RX7 (some .boolean) 1 0 0 true true 25 kd_M_is_25 :=
  sd_aload_n (pc := 25) (kt_tab_get kx_M_is 15 rfl) rfl <|
  sd_get (pc := 26) (k := 35) (ci := 7) kt_hc7 kt_hin7 (by decide) (kt_tab_get kx_M_is 16 rfl) (kg_M_is_in _ (List.mem_of_getElem? (i := 4) rfl)) <|
  sd_iload_n (pc := 29) (kt_tab_get kx_M_is 17 rfl) rfl <|
  sd_zald (pc := 30) (kt_tab_get kx_M_is 18 rfl) <|
  sd_if_eq (pc := 31) (tgt := 38) (kt_tab_get kx_M_is 19 rfl) rfl (sd_drop (k := 3) (sd_drop (k := 0) kz_M_is_38)) (sd_drop (k := 3) (sd_drop (k := 0) kz_M_is_34))
noncomputable def kd_M_is_20 : kt_D := ki_iload 2 <| ki_push (.int 4) <| ki_icmp_ne (ki_drop 3 (ki_drop 2 (ki_drop 0 kd_M_is_34))) (ki_drop 2 kd_M_is_25)
theorem kz_M_is_20 : kt_Snd l kt_shM kb_M_is 4 RX7 (some .boolean) 1 0 0 true true 20 kd_M_is_20 :=
  sd_iload_n (pc := 20) (kt_tab_get kx_M_is 12 rfl) rfl <|
  sd_iconst (pc := 21) (kt_tab_get kx_M_is 13 rfl) kc_i_4 <|
  sd_icmp_ne (pc := 22) (tgt := 34) (kt_tab_get kx_M_is 14 rfl) rfl (sd_drop (k := 3) (sd_drop (k := 2) (sd_drop (k := 0) kz_M_is_34))) (sd_drop (k := 2) kz_M_is_25)
noncomputable def kd_M_is_10 : kt_D := ki_aload 0 <| ki_get kt_shM 7 32 <| ki_iload 3 <| ki_iald kt_shM <| ki_iload 2 <| ki_icmp_ne (ki_drop 3 (ki_drop 2 (ki_drop 0 kd_M_is_38))) kd_M_is_20
theorem kz_M_is_10 : kt_Snd l kt_shM kb_M_is 4 RX7 (some .boolean) 1 0 0 true true 10 kd_M_is_10 :=
  sd_aload_n (pc := 10) (kt_tab_get kx_M_is 6 rfl) rfl <|
  sd_get (pc := 11) (k := 32) (ci := 7) kt_hc7 kt_hin7 (by decide) (kt_tab_get kx_M_is 7 rfl) (kg_M_is_in _ (List.mem_of_getElem? (i := 5) rfl)) <|
  sd_iload_n (pc := 14) (kt_tab_get kx_M_is 8 rfl) rfl <|
  sd_iald (pc := 15) (kt_tab_get kx_M_is 9 rfl) <|
  sd_iload_n (pc := 16) (kt_tab_get kx_M_is 10 rfl) rfl <|
  sd_icmp_ne (pc := 17) (tgt := 38) (kt_tab_get kx_M_is 11 rfl) rfl (sd_drop (k := 3) (sd_drop (k := 2) (sd_drop (k := 0) kz_M_is_38))) kz_M_is_20
noncomputable def kd_M_is_0 : kt_D := ki_aload 0 <| ki_iload 1 <| ki_callV kt_shM 7 1 kf_M_find <| ki_istore 3 <| ki_iload 3 <| ki_if_lt (ki_drop 3 (ki_drop 2 (ki_drop 1 (ki_drop 0 kd_M_is_34)))) (ki_drop 1 kd_M_is_10)
theorem kz_M_is_0 : kt_Snd l kt_shM kb_M_is 4 RX7 (some .boolean) 1 0 0 true true 0 kd_M_is_0 :=
  sd_aload_n (pc := 0) (kt_tab_get kx_M_is 0 rfl) rfl <|
  sd_iload_n (pc := 1) (kt_tab_get kx_M_is 1 rfl) rfl <|
  sd_callV (pc := 2) km_M_find (by decide) kv_M_find (ci := 7) kt_hc7 (by decide) (kt_tab_get kx_M_is 2 rfl) (kg_M_is_in _ (List.mem_of_getElem? (i := 6) rfl)) <|
  sd_istore_n (pc := 5) (kt_tab_get kx_M_is 3 rfl) rfl (by decide) <|
  sd_iload_n (pc := 6) (kt_tab_get kx_M_is 4 rfl) rfl <|
  sd_if_lt (pc := 7) (tgt := 34) (kt_tab_get kx_M_is 5 rfl) rfl (sd_drop (k := 3) (sd_drop (k := 2) (sd_drop (k := 1) (sd_drop (k := 0) kz_M_is_34)))) (sd_drop (k := 1) kz_M_is_10)
noncomputable def kf_M_is : kt_F := kt_run 4 kd_M_is_0
theorem km_M_is : kt_M l kt_shM ky_M_is kb_M_is 4 (some .boolean) 1 true kf_M_is := kt_method (by decide) rfl kz_M_is_0
noncomputable def kd_M_there_13 : kt_D := ki_zret
theorem kz_M_there_13 : kt_Snd l kt_shM kb_M_there 2 RX7 (some .boolean) 1 0 0 true true 13 kd_M_there_13 :=
  sd_zret (pc := 13) rfl (by decide) (kt_tab_get kx_M_there 7 rfl)
noncomputable def kd_M_there_12 : kt_D := ki_push (.int 0) <| kd_M_there_13
theorem kz_M_there_12 : kt_Snd l kt_shM kb_M_there 2 RX7 (some .boolean) 1 0 0 true true 12 kd_M_there_12 :=
  sd_iconst (pc := 12) (kt_tab_get kx_M_there 6 rfl) kc_i_0 <|
  kz_M_there_13
noncomputable def kd_M_there_8 : kt_D := ki_push (.int 1) <| kd_M_there_13
theorem kz_M_there_8 : kt_Snd l kt_shM kb_M_there 2 RX7 (some .boolean) 1 0 0 true true 8 kd_M_there_8 :=
  sd_iconst (pc := 8) (kt_tab_get kx_M_there 4 rfl) kc_i_1 <|
  sd_goto (pc := 9) (tgt := 13) (kt_tab_get kx_M_there 5 rfl) rfl kz_M_there_13
noncomputable def kd_M_there_0 : kt_D := ki_aload 0 <| ki_iload 1 <| ki_callV kt_shM 7 1 kf_M_find <| ki_if_lt (ki_drop 1 (ki_drop 0 kd_M_there_12)) (ki_drop 1 (ki_drop 0 kd_M_there_8))
theorem kz_M_there_0 : kt_Snd l kt_shM kb_M_there 2 RX7 (some .boolean) 1 0 0 true true 0 kd_M_there_0 :=
  sd_aload_n (pc := 0) (kt_tab_get kx_M_there 0 rfl) rfl <|
  sd_iload_n (pc := 1) (kt_tab_get kx_M_there 1 rfl) rfl <|
  sd_callV (pc := 2) km_M_find (by decide) kv_M_find (ci := 7) kt_hc7 (by decide) (kt_tab_get kx_M_there 2 rfl) (kg_M_there_in _ (List.mem_of_getElem? (i := 4) rfl)) <|
  sd_if_lt (pc := 5) (tgt := 12) (kt_tab_get kx_M_there 3 rfl) rfl (sd_drop (k := 1) (sd_drop (k := 0) kz_M_there_12)) (sd_drop (k := 1) (sd_drop (k := 0) kz_M_there_8))
noncomputable def kf_M_there : kt_F := kt_run 2 kd_M_there_0
theorem km_M_there : kt_M l kt_shM ky_M_there kb_M_there 2 (some .boolean) 1 true kf_M_there := kt_method (by decide) rfl kz_M_there_0
noncomputable def kd_M_get_0 : kt_D := ki_aload 0 <| ki_get kt_shM 7 33 <| ki_aload 0 <| ki_iload 1 <| ki_callV kt_shM 7 1 kf_M_find <| ki_iald kt_shM <| ki_iret
theorem kz_M_get_0 : kt_Snd l kt_shM kb_M_get 2 RX7 (some .int) 1 0 0 true true 0 kd_M_get_0 :=
  sd_aload_n (pc := 0) (kt_tab_get kx_M_get 0 rfl) rfl <|
  sd_get (pc := 1) (k := 33) (ci := 7) kt_hc7 kt_hin7 (by decide) (kt_tab_get kx_M_get 1 rfl) (kg_M_get_in _ (List.mem_of_getElem? (i := 4) rfl)) <|
  sd_aload_n (pc := 4) (kt_tab_get kx_M_get 2 rfl) rfl <|
  sd_iload_n (pc := 5) (kt_tab_get kx_M_get 3 rfl) rfl <|
  sd_callV (pc := 6) km_M_find (by decide) kv_M_find (ci := 7) kt_hc7 (by decide) (kt_tab_get kx_M_get 4 rfl) (kg_M_get_in _ (List.mem_of_getElem? (i := 5) rfl)) <|
  sd_iald (pc := 9) (kt_tab_get kx_M_get 5 rfl) <|
  sd_iret (pc := 10) rfl (by decide) (kt_tab_get kx_M_get 6 rfl)
noncomputable def kf_M_get : kt_F := kt_run 2 kd_M_get_0
theorem km_M_get : kt_M l kt_shM ky_M_get kb_M_get 2 (some .int) 1 true kf_M_get := kt_method (by decide) rfl kz_M_get_0
noncomputable def kd_M_listed_63 : kt_D := ki_iload 4 <| ki_zret
theorem kz_M_listed_63 : kt_Snd l kt_shM kb_M_listed 6 RX7 (some .boolean) 1 0 0 false false 63 kd_M_listed_63 :=
  sd_iload (pc := 63) (kt_tab_get kx_M_listed 34 rfl) <|
  sd_zret (pc := 65) rfl (by decide) (kt_tab_get kx_M_listed 35 rfl)
noncomputable def kd_M_listed_55 (kh_22 : kt_D) : kt_D := ki_istore 4 <| ki_iinc 5 1 <| kh_22
theorem kz_M_listed_55 {kh_22 : kt_D} (zh_22 : kt_Snd l kt_shM kb_M_listed 6 RX7 (some .boolean) 1 0 0 false false 22 kh_22) : kt_Snd l kt_shM kb_M_listed 6 RX7 (some .boolean) 1 0 0 false false 55 (kd_M_listed_55 kh_22) :=
  sd_istore (pc := 55) (kt_tab_get kx_M_listed 31 rfl) (by decide) <|
  sd_iinc (pc := 57) (kt_tab_get kx_M_listed 32 rfl) kc_i_1 (by decide) <|
  sd_goto (pc := 60) (tgt := 22) (kt_tab_get kx_M_listed 33 rfl) rfl zh_22
noncomputable def kd_M_listed_50 (kh_22 : kt_D) : kt_D := ki_push (.int 1) <| (kd_M_listed_55 kh_22)
theorem kz_M_listed_50 {kh_22 : kt_D} (zh_22 : kt_Snd l kt_shM kb_M_listed 6 RX7 (some .boolean) 1 0 0 false false 22 kh_22) : kt_Snd l kt_shM kb_M_listed 6 RX7 (some .boolean) 1 0 0 false false 50 (kd_M_listed_50 kh_22) :=
  sd_iconst (pc := 50) (kt_tab_get kx_M_listed 28 rfl) kc_i_1 <|
  sd_goto (pc := 51) (tgt := 55) (kt_tab_get kx_M_listed 29 rfl) rfl (kz_M_listed_55 zh_22)
noncomputable def kd_M_listed_54 (kh_22 : kt_D) : kt_D := ki_push (.int 0) <| (kd_M_listed_55 kh_22)
theorem kz_M_listed_54 {kh_22 : kt_D} (zh_22 : kt_Snd l kt_shM kb_M_listed 6 RX7 (some .boolean) 1 0 0 false false 22 kh_22) : kt_Snd l kt_shM kb_M_listed 6 RX7 (some .boolean) 1 0 0 false false 54 (kd_M_listed_54 kh_22) :=
  sd_iconst (pc := 54) (kt_tab_get kx_M_listed 30 rfl) kc_i_0 <|
  (kz_M_listed_55 zh_22)
noncomputable def kd_M_listed_42 (kh_22 : kt_D) : kt_D := ki_aload 0 <| ki_get kt_shM 7 24 <| ki_iload 2 <| ki_icmp_ne (kd_M_listed_54 kh_22) (kd_M_listed_50 kh_22)
theorem kz_M_listed_42 {kh_22 : kt_D} (zh_22 : kt_Snd l kt_shM kb_M_listed 6 RX7 (some .boolean) 1 0 0 false false 22 kh_22) : kt_Snd l kt_shM kb_M_listed 6 RX7 (some .boolean) 1 0 0 false false 42 (kd_M_listed_42 kh_22) :=
  sd_aload_n (pc := 42) (kt_tab_get kx_M_listed 24 rfl) rfl <|
  sd_get (pc := 43) (k := 24) (ci := 7) kt_hc7 kt_hin7 (by decide) (kt_tab_get kx_M_listed 25 rfl) (kg_M_listed_in _ (List.mem_of_getElem? (i := 4) rfl)) <|
  sd_iload_n (pc := 46) (kt_tab_get kx_M_listed 26 rfl) rfl <|
  sd_icmp_ne (pc := 47) (tgt := 54) (kt_tab_get kx_M_listed 27 rfl) rfl (kz_M_listed_54 zh_22) (kz_M_listed_50 zh_22)
noncomputable def kd_M_listed_33 (kh_22 : kt_D) : kt_D := ki_aload 0 <| ki_callV kt_shM 7 0 kf_M_head <| ki_iload 4 <| ki_if_ne (ki_drop 4 (kd_M_listed_50 kh_22)) (ki_drop 4 (kd_M_listed_42 kh_22))
theorem kz_M_listed_33 {kh_22 : kt_D} (zh_22 : kt_Snd l kt_shM kb_M_listed 6 RX7 (some .boolean) 1 0 0 false false 22 kh_22) : kt_Snd l kt_shM kb_M_listed 6 RX7 (some .boolean) 1 0 0 false false 33 (kd_M_listed_33 kh_22) :=
  sd_aload_n (pc := 33) (kt_tab_get kx_M_listed 20 rfl) rfl <|
  sd_callV (pc := 34) km_M_head (by decide) kv_M_head (ci := 7) kt_hc7 (by decide) (kt_tab_get kx_M_listed 21 rfl) (kg_M_listed_in _ (List.mem_of_getElem? (i := 5) rfl)) <|
  sd_iload (pc := 37) (kt_tab_get kx_M_listed 22 rfl) <|
  sd_if_ne (pc := 39) (tgt := 50) (kt_tab_get kx_M_listed 23 rfl) rfl (sd_drop (k := 4) (kz_M_listed_50 zh_22)) (sd_drop (k := 4) (kz_M_listed_42 zh_22))
noncomputable def kd_M_listed_22b (kh_22 : kt_D) : kt_D := ki_iload 5 <| ki_aload 0 <| ki_get kt_shM 7 33 <| ki_iload 3 <| ki_iald kt_shM <| ki_icmp_ge (ki_drop 5 (ki_drop 3 (ki_drop 2 (ki_drop 0 kd_M_listed_63)))) (kd_M_listed_33 kh_22)
theorem kz_M_listed_22b {kh_22 : kt_D} (zh_22 : kt_Snd l kt_shM kb_M_listed 6 RX7 (some .boolean) 1 0 0 false false 22 kh_22) : kt_Snd l kt_shM kb_M_listed 6 RX7 (some .boolean) 1 0 0 false false 22 (kd_M_listed_22b kh_22) :=
  sd_iload (pc := 22) (kt_tab_get kx_M_listed 14 rfl) <|
  sd_aload_n (pc := 24) (kt_tab_get kx_M_listed 15 rfl) rfl <|
  sd_get (pc := 25) (k := 33) (ci := 7) kt_hc7 kt_hin7 (by decide) (kt_tab_get kx_M_listed 16 rfl) (kg_M_listed_in _ (List.mem_of_getElem? (i := 6) rfl)) <|
  sd_iload_n (pc := 28) (kt_tab_get kx_M_listed 17 rfl) rfl <|
  sd_iald (pc := 29) (kt_tab_get kx_M_listed 18 rfl) <|
  sd_icmp_ge (pc := 30) (tgt := 63) (kt_tab_get kx_M_listed 19 rfl) rfl (sd_drop (k := 5) (sd_drop (k := 3) (sd_drop (k := 2) (sd_drop (k := 0) kz_M_listed_63)))) (kz_M_listed_33 zh_22)
noncomputable def kd_M_listed_22 (n : Nat) : kt_D := Nat.rec (fun _ _ _ => none) (fun _ ih => kd_M_listed_22b ih) n
theorem kz_M_listed_22 (n : Nat) : kt_Snd l kt_shM kb_M_listed 6 RX7 (some .boolean) 1 0 0 false false 22 (kd_M_listed_22 n) := by
  induction n with
  | zero => exact sd_fail
  | succ n ih => exact kz_M_listed_22b ih
noncomputable def kd_M_listed_0 : kt_D := ki_aload 0 <| ki_iload 1 <| ki_callV kt_shM 7 1 kf_M_find <| ki_istore 3 <| ki_push (.int 0) <| ki_istore 4 <| ki_aload 0 <| ki_aload 0 <| ki_get kt_shM 7 34 <| ki_iload 3 <| ki_iald kt_shM <| ki_put kt_shM 7 22 0 <| ki_push (.int 0) <| ki_istore 5 <| (ki_drop 1 (kd_M_listed_22 100))
theorem kz_M_listed_0 : kt_Snd l kt_shM kb_M_listed 6 RX7 (some .boolean) 1 0 0 false false 0 kd_M_listed_0 :=
  sd_aload_n (pc := 0) (kt_tab_get kx_M_listed 0 rfl) rfl <|
  sd_iload_n (pc := 1) (kt_tab_get kx_M_listed 1 rfl) rfl <|
  sd_callV (pc := 2) km_M_find (by decide) kv_M_find (ci := 7) kt_hc7 (by decide) (kt_tab_get kx_M_listed 2 rfl) (kg_M_listed_in _ (List.mem_of_getElem? (i := 7) rfl)) <|
  sd_istore_n (pc := 5) (kt_tab_get kx_M_listed 3 rfl) rfl (by decide) <|
  sd_iconst (pc := 6) (kt_tab_get kx_M_listed 4 rfl) kc_i_0 <|
  sd_istore (pc := 7) (kt_tab_get kx_M_listed 5 rfl) (by decide) <|
  sd_aload_n (pc := 9) (kt_tab_get kx_M_listed 6 rfl) rfl <|
  sd_aload_n (pc := 10) (kt_tab_get kx_M_listed 7 rfl) rfl <|
  sd_get (pc := 11) (k := 34) (ci := 7) kt_hc7 kt_hin7 (by decide) (kt_tab_get kx_M_listed 8 rfl) (kg_M_listed_in _ (List.mem_of_getElem? (i := 8) rfl)) <|
  sd_iload_n (pc := 14) (kt_tab_get kx_M_listed 9 rfl) rfl <|
  sd_iald (pc := 15) (kt_tab_get kx_M_listed 10 rfl) <|
  sd_put (pc := 16) (k := 22) (ci := 7) kt_hc7 kt_hin7 tyX7_ok nmX7 (by decide) rfl rfl (Or.inl ⟨rfl, rfl⟩) (kt_tab_get kx_M_listed 11 rfl) (kg_M_listed_in _ (List.mem_of_getElem? (i := 9) rfl)) <|
  sd_iconst (pc := 19) (kt_tab_get kx_M_listed 12 rfl) kc_i_0 <|
  sd_istore (pc := 20) (kt_tab_get kx_M_listed 13 rfl) (by decide) <|
  (sd_drop (k := 1) (kz_M_listed_22 100))
noncomputable def kf_M_listed : kt_F := kt_run 6 kd_M_listed_0
theorem km_M_listed : kt_M l kt_shM ky_M_listed kb_M_listed 6 (some .boolean) 1 false kf_M_listed := kt_method (by decide) rfl kz_M_listed_0
noncomputable def kd_M_textNumber_49 : kt_D := ki_iload 3 <| ki_iret
theorem kz_M_textNumber_49 : kt_Snd l kt_shM kb_M_textNumber 5 RX7 (some .int) 1 0 0 true true 49 kd_M_textNumber_49 :=
  sd_iload_n (pc := 49) (kt_tab_get kx_M_textNumber 30 rfl) rfl <|
  sd_iret (pc := 50) rfl (by decide) (kt_tab_get kx_M_textNumber 31 rfl)
noncomputable def kd_M_textNumber_22 (kh_11 : kt_D) : kt_D := ki_iload 3 <| ki_push (.int 131) <| ki_imul <| ki_aload 0 <| ki_get kt_shM 7 9 <| ki_aload 0 <| ki_get kt_shM 7 34 <| ki_iload 2 <| ki_iald kt_shM <| ki_iload 4 <| ki_iadd <| ki_iald kt_shM <| ki_iadd <| ki_istore 3 <| ki_iinc 4 1 <| kh_11
theorem kz_M_textNumber_22 {kh_11 : kt_D} (zh_11 : kt_Snd l kt_shM kb_M_textNumber 5 RX7 (some .int) 1 0 0 true true 11 kh_11) : kt_Snd l kt_shM kb_M_textNumber 5 RX7 (some .int) 1 0 0 true true 22 (kd_M_textNumber_22 kh_11) :=
  sd_iload_n (pc := 22) (kt_tab_get kx_M_textNumber 14 rfl) rfl <|
  sd_sipush (pc := 23) (kt_tab_get kx_M_textNumber 15 rfl) kc_s_131 <|
  sd_imul (pc := 26) (kt_tab_get kx_M_textNumber 16 rfl) <|
  sd_aload_n (pc := 27) (kt_tab_get kx_M_textNumber 17 rfl) rfl <|
  sd_get (pc := 28) (k := 9) (ci := 7) kt_hc7 kt_hin7 (by decide) (kt_tab_get kx_M_textNumber 18 rfl) (kg_M_textNumber_in _ (List.mem_of_getElem? (i := 4) rfl)) <|
  sd_aload_n (pc := 31) (kt_tab_get kx_M_textNumber 19 rfl) rfl <|
  sd_get (pc := 32) (k := 34) (ci := 7) kt_hc7 kt_hin7 (by decide) (kt_tab_get kx_M_textNumber 20 rfl) (kg_M_textNumber_in _ (List.mem_of_getElem? (i := 5) rfl)) <|
  sd_iload_n (pc := 35) (kt_tab_get kx_M_textNumber 21 rfl) rfl <|
  sd_iald (pc := 36) (kt_tab_get kx_M_textNumber 22 rfl) <|
  sd_iload (pc := 37) (kt_tab_get kx_M_textNumber 23 rfl) <|
  sd_iadd (pc := 39) (kt_tab_get kx_M_textNumber 24 rfl) <|
  sd_iald (pc := 40) (kt_tab_get kx_M_textNumber 25 rfl) <|
  sd_iadd (pc := 41) (kt_tab_get kx_M_textNumber 26 rfl) <|
  sd_istore_n (pc := 42) (kt_tab_get kx_M_textNumber 27 rfl) rfl (by decide) <|
  sd_iinc (pc := 43) (kt_tab_get kx_M_textNumber 28 rfl) kc_i_1 (by decide) <|
  sd_goto (pc := 46) (tgt := 11) (kt_tab_get kx_M_textNumber 29 rfl) rfl zh_11
noncomputable def kd_M_textNumber_11b (kh_11 : kt_D) : kt_D := ki_iload 4 <| ki_aload 0 <| ki_get kt_shM 7 33 <| ki_iload 2 <| ki_iald kt_shM <| ki_icmp_ge (ki_drop 4 (ki_drop 2 (ki_drop 0 kd_M_textNumber_49))) (kd_M_textNumber_22 kh_11)
theorem kz_M_textNumber_11b {kh_11 : kt_D} (zh_11 : kt_Snd l kt_shM kb_M_textNumber 5 RX7 (some .int) 1 0 0 true true 11 kh_11) : kt_Snd l kt_shM kb_M_textNumber 5 RX7 (some .int) 1 0 0 true true 11 (kd_M_textNumber_11b kh_11) :=
  sd_iload (pc := 11) (kt_tab_get kx_M_textNumber 8 rfl) <|
  sd_aload_n (pc := 13) (kt_tab_get kx_M_textNumber 9 rfl) rfl <|
  sd_get (pc := 14) (k := 33) (ci := 7) kt_hc7 kt_hin7 (by decide) (kt_tab_get kx_M_textNumber 10 rfl) (kg_M_textNumber_in _ (List.mem_of_getElem? (i := 6) rfl)) <|
  sd_iload_n (pc := 17) (kt_tab_get kx_M_textNumber 11 rfl) rfl <|
  sd_iald (pc := 18) (kt_tab_get kx_M_textNumber 12 rfl) <|
  sd_icmp_ge (pc := 19) (tgt := 49) (kt_tab_get kx_M_textNumber 13 rfl) rfl (sd_drop (k := 4) (sd_drop (k := 2) (sd_drop (k := 0) kz_M_textNumber_49))) (kz_M_textNumber_22 zh_11)
noncomputable def kd_M_textNumber_11 (n : Nat) : kt_D := Nat.rec (fun _ _ _ => none) (fun _ ih => kd_M_textNumber_11b ih) n
theorem kz_M_textNumber_11 (n : Nat) : kt_Snd l kt_shM kb_M_textNumber 5 RX7 (some .int) 1 0 0 true true 11 (kd_M_textNumber_11 n) := by
  induction n with
  | zero => exact sd_fail
  | succ n ih => exact kz_M_textNumber_11b ih
noncomputable def kd_M_textNumber_0 : kt_D := ki_aload 0 <| ki_iload 1 <| ki_callV kt_shM 7 1 kf_M_find <| ki_istore 2 <| ki_push (.int 5) <| ki_istore 3 <| ki_push (.int 0) <| ki_istore 4 <| (ki_drop 1 (kd_M_textNumber_11 100))
theorem kz_M_textNumber_0 : kt_Snd l kt_shM kb_M_textNumber 5 RX7 (some .int) 1 0 0 true true 0 kd_M_textNumber_0 :=
  sd_aload_n (pc := 0) (kt_tab_get kx_M_textNumber 0 rfl) rfl <|
  sd_iload_n (pc := 1) (kt_tab_get kx_M_textNumber 1 rfl) rfl <|
  sd_callV (pc := 2) km_M_find (by decide) kv_M_find (ci := 7) kt_hc7 (by decide) (kt_tab_get kx_M_textNumber 2 rfl) (kg_M_textNumber_in _ (List.mem_of_getElem? (i := 7) rfl)) <|
  sd_istore_n (pc := 5) (kt_tab_get kx_M_textNumber 3 rfl) rfl (by decide) <|
  sd_iconst (pc := 6) (kt_tab_get kx_M_textNumber 4 rfl) kc_i_5 <|
  sd_istore_n (pc := 7) (kt_tab_get kx_M_textNumber 5 rfl) rfl (by decide) <|
  sd_iconst (pc := 8) (kt_tab_get kx_M_textNumber 6 rfl) kc_i_0 <|
  sd_istore (pc := 9) (kt_tab_get kx_M_textNumber 7 rfl) (by decide) <|
  (sd_drop (k := 1) (kz_M_textNumber_11 100))
noncomputable def kf_M_textNumber : kt_F := kt_run 5 kd_M_textNumber_0
theorem km_M_textNumber : kt_M l kt_shM ky_M_textNumber kb_M_textNumber 5 (some .int) 1 true kf_M_textNumber := kt_method (by decide) rfl kz_M_textNumber_0
noncomputable def kd_M_out_0 : kt_D := ki_aload 0 <| ki_get kt_shM 7 11 <| ki_aload 0 <| ki_get kt_shM 7 12 <| ki_iload 1 <| ki_iast kt_shM <| ki_aload 0 <| ki_dup <| ki_get kt_shM 7 12 <| ki_push (.int 1) <| ki_iadd <| ki_put kt_shM 7 12 0 <| ki_vret
theorem kz_M_out_0 : kt_Snd l kt_shM kb_M_out 2 RX7 none 0 0 0 false false 0 kd_M_out_0 :=
  sd_aload_n (pc := 0) (kt_tab_get kx_M_out 0 rfl) rfl <|
  sd_get (pc := 1) (k := 11) (ci := 7) kt_hc7 kt_hin7 (by decide) (kt_tab_get kx_M_out 1 rfl) (kg_M_out_in _ (List.mem_of_getElem? (i := 4) rfl)) <|
  sd_aload_n (pc := 4) (kt_tab_get kx_M_out 2 rfl) rfl <|
  sd_get (pc := 5) (k := 12) (ci := 7) kt_hc7 kt_hin7 (by decide) (kt_tab_get kx_M_out 3 rfl) (kg_M_out_in _ (List.mem_of_getElem? (i := 5) rfl)) <|
  sd_iload_n (pc := 8) (kt_tab_get kx_M_out 4 rfl) rfl <|
  sd_iast (pc := 9) (kt_tab_get kx_M_out 5 rfl) <|
  sd_aload_n (pc := 10) (kt_tab_get kx_M_out 6 rfl) rfl <|
  sd_dup (pc := 11) (kt_tab_get kx_M_out 7 rfl) <|
  sd_get (pc := 12) (k := 12) (ci := 7) kt_hc7 kt_hin7 (by decide) (kt_tab_get kx_M_out 8 rfl) (kg_M_out_in _ (List.mem_of_getElem? (i := 5) rfl)) <|
  sd_iconst (pc := 15) (kt_tab_get kx_M_out 9 rfl) kc_i_1 <|
  sd_iadd (pc := 16) (kt_tab_get kx_M_out 10 rfl) <|
  sd_put (pc := 17) (k := 12) (ci := 7) kt_hc7 kt_hin7 tyX7_ok nmX7 (by decide) rfl rfl (Or.inl ⟨rfl, rfl⟩) (kt_tab_get kx_M_out 11 rfl) (kg_M_out_in _ (List.mem_of_getElem? (i := 5) rfl)) <|
  sd_vret (pc := 20) rfl (by decide) (kt_tab_get kx_M_out 12 rfl)
noncomputable def kf_M_out : kt_F := kt_run 2 kd_M_out_0
theorem km_M_out : kt_M l kt_shM ky_M_out kb_M_out 2 none 0 false kf_M_out := kt_method (by decide) rfl kz_M_out_0
noncomputable def kd_M_number_95 : kt_D := ki_vret
theorem kz_M_number_95 : kt_Snd l kt_shM kb_M_number 4 RX7 none 1 0 0 false false 95 kd_M_number_95 :=
  sd_vret (pc := 95) rfl (by decide) (kt_tab_get kx_M_number 48 rfl)
noncomputable def kd_M_number_78 (kh_74 : kt_D) : kt_D := ki_aload 0 <| ki_iload 1 <| ki_iload 3 <| ki_ishr <| ki_push (.int 255) <| ki_iand <| ki_callV kt_shM 7 1 kf_M_out <| ki_iinc 3 (-8) <| kh_74
theorem kz_M_number_78 {kh_74 : kt_D} (zh_74 : kt_Snd l kt_shM kb_M_number 4 RX7 none 1 0 0 false false 74 kh_74) : kt_Snd l kt_shM kb_M_number 4 RX7 none 1 0 0 false false 78 (kd_M_number_78 kh_74) :=
  sd_aload_n (pc := 78) (kt_tab_get kx_M_number 39 rfl) rfl <|
  sd_iload_n (pc := 79) (kt_tab_get kx_M_number 40 rfl) rfl <|
  sd_iload_n (pc := 80) (kt_tab_get kx_M_number 41 rfl) rfl <|
  sd_ishr (pc := 81) (kt_tab_get kx_M_number 42 rfl) <|
  sd_sipush (pc := 82) (kt_tab_get kx_M_number 43 rfl) kc_s_255 <|
  sd_iand (pc := 85) (kt_tab_get kx_M_number 44 rfl) <|
  sd_callV (pc := 86) km_M_out (by decide) kv_M_out (ci := 7) kt_hc7 (by decide) (kt_tab_get kx_M_number 45 rfl) (kg_M_number_in _ (List.mem_of_getElem? (i := 4) rfl)) <|
  sd_iinc (pc := 89) (kt_tab_get kx_M_number 46 rfl) kc_i_m8 (by decide) <|
  sd_goto (pc := 92) (tgt := 74) (kt_tab_get kx_M_number 47 rfl) rfl zh_74
noncomputable def kd_M_number_74b (kh_74 : kt_D) : kt_D := ki_iload 3 <| ki_if_lt (ki_drop 3 (ki_drop 1 (ki_drop 0 kd_M_number_95))) (kd_M_number_78 kh_74)
theorem kz_M_number_74b {kh_74 : kt_D} (zh_74 : kt_Snd l kt_shM kb_M_number 4 RX7 none 1 0 0 false false 74 kh_74) : kt_Snd l kt_shM kb_M_number 4 RX7 none 1 0 0 false false 74 (kd_M_number_74b kh_74) :=
  sd_iload_n (pc := 74) (kt_tab_get kx_M_number 37 rfl) rfl <|
  sd_if_lt (pc := 75) (tgt := 95) (kt_tab_get kx_M_number 38 rfl) rfl (sd_drop (k := 3) (sd_drop (k := 1) (sd_drop (k := 0) kz_M_number_95))) (kz_M_number_78 zh_74)
noncomputable def kd_M_number_74 (n : Nat) : kt_D := Nat.rec (fun _ _ _ => none) (fun _ ih => kd_M_number_74b ih) n
theorem kz_M_number_74 (n : Nat) : kt_Snd l kt_shM kb_M_number 4 RX7 none 1 0 0 false false 74 (kd_M_number_74 n) := by
  induction n with
  | zero => exact sd_fail
  | succ n ih => exact kz_M_number_74b ih
noncomputable def kd_M_number_73 : kt_D := ki_istore 3 <| (kd_M_number_74 100)
theorem kz_M_number_73 : kt_Snd l kt_shM kb_M_number 4 RX7 none 1 0 0 false false 73 kd_M_number_73 :=
  sd_istore_n (pc := 73) (kt_tab_get kx_M_number 36 rfl) rfl (by decide) <|
  (kz_M_number_74 100)
noncomputable def kd_M_number_71 : kt_D := ki_push (.int 24) <| kd_M_number_73
theorem kz_M_number_71 : kt_Snd l kt_shM kb_M_number 4 RX7 none 1 0 0 false false 71 kd_M_number_71 :=
  sd_bipush (pc := 71) (kt_tab_get kx_M_number 35 rfl) kc_b_24 <|
  kz_M_number_73
noncomputable def kd_M_number_66 : kt_D := ki_push (.int 8) <| kd_M_number_73
theorem kz_M_number_66 : kt_Snd l kt_shM kb_M_number 4 RX7 none 1 0 0 false false 66 kd_M_number_66 :=
  sd_bipush (pc := 66) (kt_tab_get kx_M_number 33 rfl) kc_b_8 <|
  sd_goto (pc := 68) (tgt := 73) (kt_tab_get kx_M_number 34 rfl) rfl kz_M_number_73
noncomputable def kd_M_number_59 : kt_D := ki_callV kt_shM 7 1 kf_M_out <| ki_iload 2 <| ki_if_eq (ki_drop 2 kd_M_number_71) (ki_drop 2 kd_M_number_66)
theorem kz_M_number_59 : kt_Snd l kt_shM kb_M_number 4 RX7 none 1 0 0 false false 59 kd_M_number_59 :=
  sd_callV (pc := 59) km_M_out (by decide) kv_M_out (ci := 7) kt_hc7 (by decide) (kt_tab_get kx_M_number 30 rfl) (kg_M_number_in _ (List.mem_of_getElem? (i := 4) rfl)) <|
  sd_iload_n (pc := 62) (kt_tab_get kx_M_number 31 rfl) rfl <|
  sd_if_eq (pc := 63) (tgt := 71) (kt_tab_get kx_M_number 32 rfl) rfl (sd_drop (k := 2) kz_M_number_71) (sd_drop (k := 2) kz_M_number_66)
noncomputable def kd_M_number_57 : kt_D := ki_push (.int 26) <| kd_M_number_59
theorem kz_M_number_57 : kt_Snd l kt_shM kb_M_number 4 RX7 none 1 0 0 false false 57 kd_M_number_57 :=
  sd_bipush (pc := 57) (kt_tab_get kx_M_number 29 rfl) kc_b_26 <|
  kz_M_number_59
noncomputable def kd_M_number_52 : kt_D := ki_push (.int 25) <| kd_M_number_59
theorem kz_M_number_52 : kt_Snd l kt_shM kb_M_number 4 RX7 none 1 0 0 false false 52 kd_M_number_52 :=
  sd_bipush (pc := 52) (kt_tab_get kx_M_number 27 rfl) kc_b_25 <|
  sd_goto (pc := 54) (tgt := 59) (kt_tab_get kx_M_number 28 rfl) rfl kz_M_number_59
noncomputable def kd_M_number_46 : kt_D := ki_istore 2 <| ki_aload 0 <| ki_iload 2 <| ki_if_eq kd_M_number_57 kd_M_number_52
theorem kz_M_number_46 : kt_Snd l kt_shM kb_M_number 4 RX7 none 1 0 0 false false 46 kd_M_number_46 :=
  sd_istore_n (pc := 46) (kt_tab_get kx_M_number 23 rfl) rfl (by decide) <|
  sd_aload_n (pc := 47) (kt_tab_get kx_M_number 24 rfl) rfl <|
  sd_iload_n (pc := 48) (kt_tab_get kx_M_number 25 rfl) rfl <|
  sd_if_eq (pc := 49) (tgt := 57) (kt_tab_get kx_M_number 26 rfl) rfl kz_M_number_57 kz_M_number_52
noncomputable def kd_M_number_45 : kt_D := ki_push (.int 0) <| kd_M_number_46
theorem kz_M_number_45 : kt_Snd l kt_shM kb_M_number 4 RX7 none 1 0 0 false false 45 kd_M_number_45 :=
  sd_iconst (pc := 45) (kt_tab_get kx_M_number 22 rfl) kc_i_0 <|
  kz_M_number_46
noncomputable def kd_M_number_41 : kt_D := ki_push (.int 1) <| kd_M_number_46
theorem kz_M_number_41 : kt_Snd l kt_shM kb_M_number 4 RX7 none 1 0 0 false false 41 kd_M_number_41 :=
  sd_iconst (pc := 41) (kt_tab_get kx_M_number 20 rfl) kc_i_1 <|
  sd_goto (pc := 42) (tgt := 46) (kt_tab_get kx_M_number 21 rfl) rfl kz_M_number_46
noncomputable def kd_M_number_35 : kt_D := ki_iload 1 <| ki_push (.int 65536) <| ki_icmp_ge kd_M_number_45 kd_M_number_41
theorem kz_M_number_35 : kt_Snd l kt_shM kb_M_number 4 RX7 none 1 0 0 false false 35 kd_M_number_35 :=
  sd_iload_n (pc := 35) (kt_tab_get kx_M_number 17 rfl) rfl <|
  sd_ldc (pc := 36) (kt_tab_get kx_M_number 18 rfl) (kg_M_number_in _ (List.mem_of_getElem? (i := 5) rfl)) <|
  sd_icmp_ge (pc := 38) (tgt := 45) (kt_tab_get kx_M_number 19 rfl) rfl kz_M_number_45 kz_M_number_41
noncomputable def kd_M_number_21 : kt_D := ki_aload 0 <| ki_push (.int 24) <| ki_callV kt_shM 7 1 kf_M_out <| ki_aload 0 <| ki_iload 1 <| ki_callV kt_shM 7 1 kf_M_out <| (ki_drop 1 (ki_drop 0 kd_M_number_95))
theorem kz_M_number_21 : kt_Snd l kt_shM kb_M_number 4 RX7 none 1 0 0 false false 21 kd_M_number_21 :=
  sd_aload_n (pc := 21) (kt_tab_get kx_M_number 10 rfl) rfl <|
  sd_bipush (pc := 22) (kt_tab_get kx_M_number 11 rfl) kc_b_24 <|
  sd_callV (pc := 24) km_M_out (by decide) kv_M_out (ci := 7) kt_hc7 (by decide) (kt_tab_get kx_M_number 12 rfl) (kg_M_number_in _ (List.mem_of_getElem? (i := 4) rfl)) <|
  sd_aload_n (pc := 27) (kt_tab_get kx_M_number 13 rfl) rfl <|
  sd_iload_n (pc := 28) (kt_tab_get kx_M_number 14 rfl) rfl <|
  sd_callV (pc := 29) km_M_out (by decide) kv_M_out (ci := 7) kt_hc7 (by decide) (kt_tab_get kx_M_number 15 rfl) (kg_M_number_in _ (List.mem_of_getElem? (i := 4) rfl)) <|
  sd_goto (pc := 32) (tgt := 95) (kt_tab_get kx_M_number 16 rfl) rfl (sd_drop (k := 1) (sd_drop (k := 0) kz_M_number_95))
noncomputable def kd_M_number_14 : kt_D := ki_iload 1 <| ki_push (.int 256) <| ki_icmp_ge kd_M_number_35 kd_M_number_21
theorem kz_M_number_14 : kt_Snd l kt_shM kb_M_number 4 RX7 none 1 0 0 false false 14 kd_M_number_14 :=
  sd_iload_n (pc := 14) (kt_tab_get kx_M_number 7 rfl) rfl <|
  sd_sipush (pc := 15) (kt_tab_get kx_M_number 8 rfl) kc_s_256 <|
  sd_icmp_ge (pc := 18) (tgt := 35) (kt_tab_get kx_M_number 9 rfl) rfl kz_M_number_35 kz_M_number_21
noncomputable def kd_M_number_6 : kt_D := ki_aload 0 <| ki_iload 1 <| ki_callV kt_shM 7 1 kf_M_out <| (ki_drop 1 (ki_drop 0 kd_M_number_95))
theorem kz_M_number_6 : kt_Snd l kt_shM kb_M_number 4 RX7 none 1 0 0 false false 6 kd_M_number_6 :=
  sd_aload_n (pc := 6) (kt_tab_get kx_M_number 3 rfl) rfl <|
  sd_iload_n (pc := 7) (kt_tab_get kx_M_number 4 rfl) rfl <|
  sd_callV (pc := 8) km_M_out (by decide) kv_M_out (ci := 7) kt_hc7 (by decide) (kt_tab_get kx_M_number 5 rfl) (kg_M_number_in _ (List.mem_of_getElem? (i := 4) rfl)) <|
  sd_goto (pc := 11) (tgt := 95) (kt_tab_get kx_M_number 6 rfl) rfl (sd_drop (k := 1) (sd_drop (k := 0) kz_M_number_95))
noncomputable def kd_M_number_0 : kt_D := ki_iload 1 <| ki_push (.int 24) <| ki_icmp_ge kd_M_number_14 kd_M_number_6
theorem kz_M_number_0 : kt_Snd l kt_shM kb_M_number 4 RX7 none 1 0 0 false false 0 kd_M_number_0 :=
  sd_iload_n (pc := 0) (kt_tab_get kx_M_number 0 rfl) rfl <|
  sd_bipush (pc := 1) (kt_tab_get kx_M_number 1 rfl) kc_b_24 <|
  sd_icmp_ge (pc := 3) (tgt := 14) (kt_tab_get kx_M_number 2 rfl) rfl kz_M_number_14 kz_M_number_6
noncomputable def kf_M_number : kt_F := kt_run 4 kd_M_number_0
theorem km_M_number : kt_M l kt_shM ky_M_number kb_M_number 4 none 1 false kf_M_number := kt_method (by decide) rfl kz_M_number_0
noncomputable def kd_M_pair_0 : kt_D := ki_aload 0 <| ki_iload 1 <| ki_callV kt_shM 7 1 kf_M_out <| ki_aload 0 <| ki_iload 2 <| ki_callV kt_shM 7 1 kf_M_number <| ki_vret
theorem kz_M_pair_0 : kt_Snd l kt_shM kb_M_pair 3 RX7 none 2 0 0 false false 0 kd_M_pair_0 :=
  sd_aload_n (pc := 0) (kt_tab_get kx_M_pair 0 rfl) rfl <|
  sd_iload_n (pc := 1) (kt_tab_get kx_M_pair 1 rfl) rfl <|
  sd_callV (pc := 2) km_M_out (by decide) kv_M_out (ci := 7) kt_hc7 (by decide) (kt_tab_get kx_M_pair 2 rfl) (kg_M_pair_in _ (List.mem_of_getElem? (i := 4) rfl)) <|
  sd_aload_n (pc := 5) (kt_tab_get kx_M_pair 3 rfl) rfl <|
  sd_iload_n (pc := 6) (kt_tab_get kx_M_pair 4 rfl) rfl <|
  sd_callV (pc := 7) km_M_number (by decide) kv_M_number (ci := 7) kt_hc7 (by decide) (kt_tab_get kx_M_pair 5 rfl) (kg_M_pair_in _ (List.mem_of_getElem? (i := 5) rfl)) <|
  sd_vret (pc := 10) rfl (by decide) (kt_tab_get kx_M_pair 6 rfl)
noncomputable def kf_M_pair : kt_F := kt_run 3 kd_M_pair_0
theorem km_M_pair : kt_M l kt_shM ky_M_pair kb_M_pair 3 none 2 false kf_M_pair := kt_method (by decide) rfl kz_M_pair_0
noncomputable def kd_M_begin_0 : kt_D := ki_aload 0 <| ki_push (.int 0) <| ki_put kt_shM 7 12 0 <| ki_aload 0 <| ki_push (.int 0) <| ki_callV kt_shM 7 1 kf_M_out <| ki_aload 0 <| ki_push (.int 160) <| ki_iload 1 <| ki_iadd <| ki_callV kt_shM 7 1 kf_M_out <| ki_vret
theorem kz_M_begin_0 : kt_Snd l kt_shM kb_M_begin 2 RX7 none 1 0 0 false false 0 kd_M_begin_0 :=
  sd_aload_n (pc := 0) (kt_tab_get kx_M_begin 0 rfl) rfl <|
  sd_iconst (pc := 1) (kt_tab_get kx_M_begin 1 rfl) kc_i_0 <|
  sd_put (pc := 2) (k := 12) (ci := 7) kt_hc7 kt_hin7 tyX7_ok nmX7 (by decide) rfl rfl (Or.inl ⟨rfl, rfl⟩) (kt_tab_get kx_M_begin 2 rfl) (kg_M_begin_in _ (List.mem_of_getElem? (i := 4) rfl)) <|
  sd_aload_n (pc := 5) (kt_tab_get kx_M_begin 3 rfl) rfl <|
  sd_iconst (pc := 6) (kt_tab_get kx_M_begin 4 rfl) kc_i_0 <|
  sd_callV (pc := 7) km_M_out (by decide) kv_M_out (ci := 7) kt_hc7 (by decide) (kt_tab_get kx_M_begin 5 rfl) (kg_M_begin_in _ (List.mem_of_getElem? (i := 5) rfl)) <|
  sd_aload_n (pc := 10) (kt_tab_get kx_M_begin 6 rfl) rfl <|
  sd_sipush (pc := 11) (kt_tab_get kx_M_begin 7 rfl) kc_s_160 <|
  sd_iload_n (pc := 14) (kt_tab_get kx_M_begin 8 rfl) rfl <|
  sd_iadd (pc := 15) (kt_tab_get kx_M_begin 9 rfl) <|
  sd_callV (pc := 16) km_M_out (by decide) kv_M_out (ci := 7) kt_hc7 (by decide) (kt_tab_get kx_M_begin 10 rfl) (kg_M_begin_in _ (List.mem_of_getElem? (i := 5) rfl)) <|
  sd_vret (pc := 19) rfl (by decide) (kt_tab_get kx_M_begin 11 rfl)
noncomputable def kf_M_begin : kt_F := kt_run 2 kd_M_begin_0
theorem km_M_begin : kt_M l kt_shM ky_M_begin kb_M_begin 2 none 1 false kf_M_begin := kt_method (by decide) rfl kz_M_begin_0
noncomputable def kd_M_ticketWrong_24 : kt_D := ki_zret
theorem kz_M_ticketWrong_24 : kt_Snd l kt_shM kb_M_ticketWrong 2 RX7 (some .boolean) 2 0 0 true true 24 kd_M_ticketWrong_24 :=
  sd_zret (pc := 24) rfl (by decide) (kt_tab_get kx_M_ticketWrong 12 rfl)
noncomputable def kd_M_ticketWrong_19 : kt_D := ki_push (.int 1) <| kd_M_ticketWrong_24
theorem kz_M_ticketWrong_19 : kt_Snd l kt_shM kb_M_ticketWrong 2 RX7 (some .boolean) 2 0 0 true true 19 kd_M_ticketWrong_19 :=
  sd_iconst (pc := 19) (kt_tab_get kx_M_ticketWrong 9 rfl) kc_i_1 <|
  sd_goto (pc := 20) (tgt := 24) (kt_tab_get kx_M_ticketWrong 10 rfl) rfl kz_M_ticketWrong_24
noncomputable def kd_M_ticketWrong_23 : kt_D := ki_push (.int 0) <| kd_M_ticketWrong_24
theorem kz_M_ticketWrong_23 : kt_Snd l kt_shM kb_M_ticketWrong 2 RX7 (some .boolean) 2 0 0 true true 23 kd_M_ticketWrong_23 :=
  sd_iconst (pc := 23) (kt_tab_get kx_M_ticketWrong 11 rfl) kc_i_0 <|
  kz_M_ticketWrong_24
noncomputable def kd_M_ticketWrong_7 : kt_D := ki_aload 0 <| ki_iload 1 <| ki_callV kt_shM 7 1 kf_M_get <| ki_aload 0 <| ki_get kt_shM 7 8 <| ki_icmp_eq (ki_drop 1 (ki_drop 0 kd_M_ticketWrong_23)) (ki_drop 1 (ki_drop 0 kd_M_ticketWrong_19))
theorem kz_M_ticketWrong_7 : kt_Snd l kt_shM kb_M_ticketWrong 2 RX7 (some .boolean) 2 0 0 true true 7 kd_M_ticketWrong_7 :=
  sd_aload_n (pc := 7) (kt_tab_get kx_M_ticketWrong 3 rfl) rfl <|
  sd_iload_n (pc := 8) (kt_tab_get kx_M_ticketWrong 4 rfl) rfl <|
  sd_callV (pc := 9) km_M_get (by decide) kv_M_get (ci := 7) kt_hc7 (by decide) (kt_tab_get kx_M_ticketWrong 5 rfl) (kg_M_ticketWrong_in _ (List.mem_of_getElem? (i := 4) rfl)) <|
  sd_aload_n (pc := 12) (kt_tab_get kx_M_ticketWrong 6 rfl) rfl <|
  sd_get (pc := 13) (k := 8) (ci := 7) kt_hc7 kt_hin7 (by decide) (kt_tab_get kx_M_ticketWrong 7 rfl) (kg_M_ticketWrong_in _ (List.mem_of_getElem? (i := 5) rfl)) <|
  sd_icmp_eq (pc := 16) (tgt := 23) (kt_tab_get kx_M_ticketWrong 8 rfl) rfl (sd_drop (k := 1) (sd_drop (k := 0) kz_M_ticketWrong_23)) (sd_drop (k := 1) (sd_drop (k := 0) kz_M_ticketWrong_19))
noncomputable def kd_M_ticketWrong_0 : kt_D := ki_aload 0 <| ki_get kt_shM 7 8 <| ki_if_eq (ki_drop 1 (ki_drop 0 kd_M_ticketWrong_19)) kd_M_ticketWrong_7
theorem kz_M_ticketWrong_0 : kt_Snd l kt_shM kb_M_ticketWrong 2 RX7 (some .boolean) 2 0 0 true true 0 kd_M_ticketWrong_0 :=
  sd_aload_n (pc := 0) (kt_tab_get kx_M_ticketWrong 0 rfl) rfl <|
  sd_get (pc := 1) (k := 8) (ci := 7) kt_hc7 kt_hin7 (by decide) (kt_tab_get kx_M_ticketWrong 1 rfl) (kg_M_ticketWrong_in _ (List.mem_of_getElem? (i := 5) rfl)) <|
  sd_if_eq (pc := 4) (tgt := 19) (kt_tab_get kx_M_ticketWrong 2 rfl) rfl (sd_drop (k := 1) (sd_drop (k := 0) kz_M_ticketWrong_19)) kz_M_ticketWrong_7
noncomputable def kf_M_ticketWrong : kt_F := kt_run 2 kd_M_ticketWrong_0
theorem km_M_ticketWrong : kt_M l kt_shM ky_M_ticketWrong kb_M_ticketWrong 2 (some .boolean) 2 true kf_M_ticketWrong := kt_method (by decide) rfl kz_M_ticketWrong_0
noncomputable def kd_M_sign_0 : kt_D := ki_push (.int 6) <| ki_aload 0 <| ki_get kt_shM 7 19 <| ki_push (.int 40) <| ki_irem <| ki_imul <| ki_istore 7 <| ki_aload 0 <| ki_dup <| ki_get kt_shM 7 19 <| ki_push (.int 1) <| ki_iadd <| ki_put kt_shM 7 19 0 <| ki_aload 0 <| ki_get kt_shM 7 21 <| ki_iload 7 <| ki_iload 1 <| ki_iast kt_shM <| ki_aload 0 <| ki_get kt_shM 7 21 <| ki_iload 7 <| ki_push (.int 1) <| ki_iadd <| ki_iload 2 <| ki_iast kt_shM <| ki_aload 0 <| ki_get kt_shM 7 21 <| ki_iload 7 <| ki_push (.int 2) <| ki_iadd <| ki_iload 3 <| ki_iast kt_shM <| ki_aload 0 <| ki_get kt_shM 7 21 <| ki_iload 7 <| ki_push (.int 3) <| ki_iadd <| ki_iload 4 <| ki_iast kt_shM <| ki_aload 0 <| ki_get kt_shM 7 21 <| ki_iload 7 <| ki_push (.int 4) <| ki_iadd <| ki_iload 5 <| ki_iast kt_shM <| ki_aload 0 <| ki_get kt_shM 7 21 <| ki_iload 7 <| ki_push (.int 5) <| ki_iadd <| ki_iload 6 <| ki_iast kt_shM <| ki_vret
theorem kz_M_sign_0 : kt_Snd l kt_shM kb_M_sign 8 RX7 none 0 0 0 false false 0 kd_M_sign_0 :=
  sd_bipush (pc := 0) (kt_tab_get kx_M_sign 0 rfl) kc_b_6 <|
  sd_aload_n (pc := 2) (kt_tab_get kx_M_sign 1 rfl) rfl <|
  sd_get (pc := 3) (k := 19) (ci := 7) kt_hc7 kt_hin7 (by decide) (kt_tab_get kx_M_sign 2 rfl) (kg_M_sign_in _ (List.mem_of_getElem? (i := 4) rfl)) <|
  sd_bipush (pc := 6) (kt_tab_get kx_M_sign 3 rfl) kc_b_40 <|
  sd_irem (pc := 8) (kt_tab_get kx_M_sign 4 rfl) <|
  sd_imul (pc := 9) (kt_tab_get kx_M_sign 5 rfl) <|
  sd_istore (pc := 10) (kt_tab_get kx_M_sign 6 rfl) (by decide) <|
  sd_aload_n (pc := 12) (kt_tab_get kx_M_sign 7 rfl) rfl <|
  sd_dup (pc := 13) (kt_tab_get kx_M_sign 8 rfl) <|
  sd_get (pc := 14) (k := 19) (ci := 7) kt_hc7 kt_hin7 (by decide) (kt_tab_get kx_M_sign 9 rfl) (kg_M_sign_in _ (List.mem_of_getElem? (i := 4) rfl)) <|
  sd_iconst (pc := 17) (kt_tab_get kx_M_sign 10 rfl) kc_i_1 <|
  sd_iadd (pc := 18) (kt_tab_get kx_M_sign 11 rfl) <|
  sd_put (pc := 19) (k := 19) (ci := 7) kt_hc7 kt_hin7 tyX7_ok nmX7 (by decide) rfl rfl (Or.inl ⟨rfl, rfl⟩) (kt_tab_get kx_M_sign 12 rfl) (kg_M_sign_in _ (List.mem_of_getElem? (i := 4) rfl)) <|
  sd_aload_n (pc := 22) (kt_tab_get kx_M_sign 13 rfl) rfl <|
  sd_get (pc := 23) (k := 21) (ci := 7) kt_hc7 kt_hin7 (by decide) (kt_tab_get kx_M_sign 14 rfl) (kg_M_sign_in _ (List.mem_of_getElem? (i := 5) rfl)) <|
  sd_iload (pc := 26) (kt_tab_get kx_M_sign 15 rfl) <|
  sd_iload_n (pc := 28) (kt_tab_get kx_M_sign 16 rfl) rfl <|
  sd_iast (pc := 29) (kt_tab_get kx_M_sign 17 rfl) <|
  sd_aload_n (pc := 30) (kt_tab_get kx_M_sign 18 rfl) rfl <|
  sd_get (pc := 31) (k := 21) (ci := 7) kt_hc7 kt_hin7 (by decide) (kt_tab_get kx_M_sign 19 rfl) (kg_M_sign_in _ (List.mem_of_getElem? (i := 5) rfl)) <|
  sd_iload (pc := 34) (kt_tab_get kx_M_sign 20 rfl) <|
  sd_iconst (pc := 36) (kt_tab_get kx_M_sign 21 rfl) kc_i_1 <|
  sd_iadd (pc := 37) (kt_tab_get kx_M_sign 22 rfl) <|
  sd_iload_n (pc := 38) (kt_tab_get kx_M_sign 23 rfl) rfl <|
  sd_iast (pc := 39) (kt_tab_get kx_M_sign 24 rfl) <|
  sd_aload_n (pc := 40) (kt_tab_get kx_M_sign 25 rfl) rfl <|
  sd_get (pc := 41) (k := 21) (ci := 7) kt_hc7 kt_hin7 (by decide) (kt_tab_get kx_M_sign 26 rfl) (kg_M_sign_in _ (List.mem_of_getElem? (i := 5) rfl)) <|
  sd_iload (pc := 44) (kt_tab_get kx_M_sign 27 rfl) <|
  sd_iconst (pc := 46) (kt_tab_get kx_M_sign 28 rfl) kc_i_2 <|
  sd_iadd (pc := 47) (kt_tab_get kx_M_sign 29 rfl) <|
  sd_iload_n (pc := 48) (kt_tab_get kx_M_sign 30 rfl) rfl <|
  sd_iast (pc := 49) (kt_tab_get kx_M_sign 31 rfl) <|
  sd_aload_n (pc := 50) (kt_tab_get kx_M_sign 32 rfl) rfl <|
  sd_get (pc := 51) (k := 21) (ci := 7) kt_hc7 kt_hin7 (by decide) (kt_tab_get kx_M_sign 33 rfl) (kg_M_sign_in _ (List.mem_of_getElem? (i := 5) rfl)) <|
  sd_iload (pc := 54) (kt_tab_get kx_M_sign 34 rfl) <|
  sd_iconst (pc := 56) (kt_tab_get kx_M_sign 35 rfl) kc_i_3 <|
  sd_iadd (pc := 57) (kt_tab_get kx_M_sign 36 rfl) <|
  sd_iload (pc := 58) (kt_tab_get kx_M_sign 37 rfl) <|
  sd_iast (pc := 60) (kt_tab_get kx_M_sign 38 rfl) <|
  sd_aload_n (pc := 61) (kt_tab_get kx_M_sign 39 rfl) rfl <|
  sd_get (pc := 62) (k := 21) (ci := 7) kt_hc7 kt_hin7 (by decide) (kt_tab_get kx_M_sign 40 rfl) (kg_M_sign_in _ (List.mem_of_getElem? (i := 5) rfl)) <|
  sd_iload (pc := 65) (kt_tab_get kx_M_sign 41 rfl) <|
  sd_iconst (pc := 67) (kt_tab_get kx_M_sign 42 rfl) kc_i_4 <|
  sd_iadd (pc := 68) (kt_tab_get kx_M_sign 43 rfl) <|
  sd_iload (pc := 69) (kt_tab_get kx_M_sign 44 rfl) <|
  sd_iast (pc := 71) (kt_tab_get kx_M_sign 45 rfl) <|
  sd_aload_n (pc := 72) (kt_tab_get kx_M_sign 46 rfl) rfl <|
  sd_get (pc := 73) (k := 21) (ci := 7) kt_hc7 kt_hin7 (by decide) (kt_tab_get kx_M_sign 47 rfl) (kg_M_sign_in _ (List.mem_of_getElem? (i := 5) rfl)) <|
  sd_iload (pc := 76) (kt_tab_get kx_M_sign 48 rfl) <|
  sd_iconst (pc := 78) (kt_tab_get kx_M_sign 49 rfl) kc_i_5 <|
  sd_iadd (pc := 79) (kt_tab_get kx_M_sign 50 rfl) <|
  sd_iload (pc := 80) (kt_tab_get kx_M_sign 51 rfl) <|
  sd_iast (pc := 82) (kt_tab_get kx_M_sign 52 rfl) <|
  sd_vret (pc := 83) rfl (by decide) (kt_tab_get kx_M_sign 53 rfl)
noncomputable def kf_M_sign : kt_F := kt_run 8 kd_M_sign_0
theorem km_M_sign : kt_M l kt_shM ky_M_sign kb_M_sign 8 none 0 false kf_M_sign := kt_method (by decide) rfl kz_M_sign_0
noncomputable def kd_M_make_46 : kt_D := ki_push (.int 3) <| ki_iret
theorem kz_M_make_46 : kt_Snd l kt_shM kb_M_make 6 RX7 (some .int) 4 0 0 false false 46 kd_M_make_46 :=
  sd_iconst (pc := 46) (kt_tab_get kx_M_make 25 rfl) kc_i_3 <|
  sd_iret (pc := 47) rfl (by decide) (kt_tab_get kx_M_make 26 rfl)
noncomputable def kd_M_make_72 : kt_D := ki_push (.int 4) <| ki_iret
theorem kz_M_make_72 : kt_Snd l kt_shM kb_M_make 6 RX7 (some .int) 4 0 0 false false 72 kd_M_make_72 :=
  sd_iconst (pc := 72) (kt_tab_get kx_M_make 39 rfl) kc_i_4 <|
  sd_iret (pc := 73) rfl (by decide) (kt_tab_get kx_M_make 40 rfl)
noncomputable def kd_M_make_93 : kt_D := ki_push (.int 5) <| ki_iret
theorem kz_M_make_93 : kt_Snd l kt_shM kb_M_make 6 RX7 (some .int) 4 0 0 false false 93 kd_M_make_93 :=
  sd_iconst (pc := 93) (kt_tab_get kx_M_make 51 rfl) kc_i_5 <|
  sd_iret (pc := 94) rfl (by decide) (kt_tab_get kx_M_make 52 rfl)
noncomputable def kd_M_make_319 : kt_D := ki_push (.int 6) <| ki_iret
theorem kz_M_make_319 : kt_Snd l kt_shM kb_M_make 6 RX7 (some .int) 4 0 0 false false 319 kd_M_make_319 :=
  sd_bipush (pc := 319) (kt_tab_get kx_M_make 166 rfl) kc_b_6 <|
  sd_iret (pc := 321) rfl (by decide) (kt_tab_get kx_M_make 167 rfl)
noncomputable def kd_M_make_376 : kt_D := ki_callV kt_shM 7 6 kf_M_sign <| ki_aload 0 <| ki_push (.int 3) <| ki_callV kt_shM 7 1 kf_M_begin <| ki_aload 0 <| ki_push (.int 1) <| ki_iload 4 <| ki_callV kt_shM 7 2 kf_M_pair <| ki_aload 0 <| ki_push (.int 2) <| ki_aload 0 <| ki_get kt_shM 7 17 <| ki_callV kt_shM 7 2 kf_M_pair <| ki_aload 0 <| ki_push (.int 3) <| ki_aload 0 <| ki_get kt_shM 7 19 <| ki_callV kt_shM 7 2 kf_M_pair <| ki_push (.int 0) <| ki_iret
theorem kz_M_make_376 : kt_Snd l kt_shM kb_M_make 6 RX7 (some .int) 4 0 0 false false 376 kd_M_make_376 :=
  sd_callV (pc := 376) km_M_sign (by decide) kv_M_sign (ci := 7) kt_hc7 (by decide) (kt_tab_get kx_M_make 201 rfl) (kg_M_make_in _ (List.mem_of_getElem? (i := 4) rfl)) <|
  sd_aload_n (pc := 379) (kt_tab_get kx_M_make 202 rfl) rfl <|
  sd_iconst (pc := 380) (kt_tab_get kx_M_make 203 rfl) kc_i_3 <|
  sd_callV (pc := 381) km_M_begin (by decide) kv_M_begin (ci := 7) kt_hc7 (by decide) (kt_tab_get kx_M_make 204 rfl) (kg_M_make_in _ (List.mem_of_getElem? (i := 5) rfl)) <|
  sd_aload_n (pc := 384) (kt_tab_get kx_M_make 205 rfl) rfl <|
  sd_iconst (pc := 385) (kt_tab_get kx_M_make 206 rfl) kc_i_1 <|
  sd_iload (pc := 386) (kt_tab_get kx_M_make 207 rfl) <|
  sd_callV (pc := 388) km_M_pair (by decide) kv_M_pair (ci := 7) kt_hc7 (by decide) (kt_tab_get kx_M_make 208 rfl) (kg_M_make_in _ (List.mem_of_getElem? (i := 6) rfl)) <|
  sd_aload_n (pc := 391) (kt_tab_get kx_M_make 209 rfl) rfl <|
  sd_iconst (pc := 392) (kt_tab_get kx_M_make 210 rfl) kc_i_2 <|
  sd_aload_n (pc := 393) (kt_tab_get kx_M_make 211 rfl) rfl <|
  sd_get (pc := 394) (k := 17) (ci := 7) kt_hc7 kt_hin7 (by decide) (kt_tab_get kx_M_make 212 rfl) (kg_M_make_in _ (List.mem_of_getElem? (i := 7) rfl)) <|
  sd_callV (pc := 397) km_M_pair (by decide) kv_M_pair (ci := 7) kt_hc7 (by decide) (kt_tab_get kx_M_make 213 rfl) (kg_M_make_in _ (List.mem_of_getElem? (i := 6) rfl)) <|
  sd_aload_n (pc := 400) (kt_tab_get kx_M_make 214 rfl) rfl <|
  sd_iconst (pc := 401) (kt_tab_get kx_M_make 215 rfl) kc_i_3 <|
  sd_aload_n (pc := 402) (kt_tab_get kx_M_make 216 rfl) rfl <|
  sd_get (pc := 403) (k := 19) (ci := 7) kt_hc7 kt_hin7 (by decide) (kt_tab_get kx_M_make 217 rfl) (kg_M_make_in _ (List.mem_of_getElem? (i := 8) rfl)) <|
  sd_callV (pc := 406) km_M_pair (by decide) kv_M_pair (ci := 7) kt_hc7 (by decide) (kt_tab_get kx_M_make 218 rfl) (kg_M_make_in _ (List.mem_of_getElem? (i := 6) rfl)) <|
  sd_iconst (pc := 409) (kt_tab_get kx_M_make 219 rfl) kc_i_0 <|
  sd_iret (pc := 410) rfl (by decide) (kt_tab_get kx_M_make 220 rfl)
noncomputable def kd_M_make_375 : kt_D := ki_push (.int 0) <| kd_M_make_376
theorem kz_M_make_375 : kt_Snd l kt_shM kb_M_make 6 RX7 (some .int) 4 0 0 false false 375 kd_M_make_375 :=
  sd_iconst (pc := 375) (kt_tab_get kx_M_make 200 rfl) kc_i_0 <|
  kz_M_make_376
noncomputable def kd_M_make_371 : kt_D := ki_push (.int 1) <| kd_M_make_376
theorem kz_M_make_371 : kt_Snd l kt_shM kb_M_make 6 RX7 (some .int) 4 0 0 false false 371 kd_M_make_371 :=
  sd_iconst (pc := 371) (kt_tab_get kx_M_make 198 rfl) kc_i_1 <|
  sd_goto (pc := 372) (tgt := 376) (kt_tab_get kx_M_make 199 rfl) rfl kz_M_make_376
noncomputable def kd_M_make_357 : kt_D := ki_aload 0 <| ki_push (.int 1) <| ki_aload 0 <| ki_get kt_shM 7 17 <| ki_iload 2 <| ki_iload 5 <| ki_push (.int 0) <| ki_iload 1 <| ki_if_eq (ki_drop 5 (ki_drop 2 (ki_drop 1 kd_M_make_375))) (ki_drop 5 (ki_drop 2 (ki_drop 1 kd_M_make_371)))
theorem kz_M_make_357 : kt_Snd l kt_shM kb_M_make 6 RX7 (some .int) 4 0 0 false false 357 kd_M_make_357 :=
  sd_aload_n (pc := 357) (kt_tab_get kx_M_make 189 rfl) rfl <|
  sd_iconst (pc := 358) (kt_tab_get kx_M_make 190 rfl) kc_i_1 <|
  sd_aload_n (pc := 359) (kt_tab_get kx_M_make 191 rfl) rfl <|
  sd_get (pc := 360) (k := 17) (ci := 7) kt_hc7 kt_hin7 (by decide) (kt_tab_get kx_M_make 192 rfl) (kg_M_make_in _ (List.mem_of_getElem? (i := 7) rfl)) <|
  sd_iload_n (pc := 363) (kt_tab_get kx_M_make 193 rfl) rfl <|
  sd_iload (pc := 364) (kt_tab_get kx_M_make 194 rfl) <|
  sd_iconst (pc := 366) (kt_tab_get kx_M_make 195 rfl) kc_i_0 <|
  sd_iload_n (pc := 367) (kt_tab_get kx_M_make 196 rfl) rfl <|
  sd_if_eq (pc := 368) (tgt := 375) (kt_tab_get kx_M_make 197 rfl) rfl (sd_drop (k := 5) (sd_drop (k := 2) (sd_drop (k := 1) kz_M_make_375))) (sd_drop (k := 5) (sd_drop (k := 2) (sd_drop (k := 1) kz_M_make_371)))
noncomputable def kd_M_make_355 : kt_D := ki_push (.int (-1)) <| ki_iret
theorem kz_M_make_355 : kt_Snd l kt_shM kb_M_make 6 RX7 (some .int) 4 0 0 false false 355 kd_M_make_355 :=
  sd_iconst (pc := 355) (kt_tab_get kx_M_make 187 rfl) kc_i_m1 <|
  sd_iret (pc := 356) rfl (by decide) (kt_tab_get kx_M_make 188 rfl)
noncomputable def kd_M_make_322 : kt_D := ki_aload 0 <| ki_dup <| ki_get kt_shM 7 17 <| ki_push (.int 1) <| ki_iadd <| ki_put kt_shM 7 17 0 <| ki_aload 0 <| ki_push (.int 1) <| ki_callV kt_shM 7 1 kf_M_get <| ki_istore 5 <| ki_aload 0 <| ki_iload 4 <| ki_iload 2 <| ki_iload 3 <| ki_aload 0 <| ki_get kt_shM 7 17 <| ki_push (.int 0) <| ki_callV kt_shM 7 5 kf_M_put <| ki_if_ne (ki_drop 3 kd_M_make_357) (ki_drop 5 (ki_drop 4 (ki_drop 3 (ki_drop 2 (ki_drop 1 (ki_drop 0 kd_M_make_355))))))
theorem kz_M_make_322 : kt_Snd l kt_shM kb_M_make 6 RX7 (some .int) 4 0 0 false false 322 kd_M_make_322 :=
  sd_aload_n (pc := 322) (kt_tab_get kx_M_make 168 rfl) rfl <|
  sd_dup (pc := 323) (kt_tab_get kx_M_make 169 rfl) <|
  sd_get (pc := 324) (k := 17) (ci := 7) kt_hc7 kt_hin7 (by decide) (kt_tab_get kx_M_make 170 rfl) (kg_M_make_in _ (List.mem_of_getElem? (i := 7) rfl)) <|
  sd_iconst (pc := 327) (kt_tab_get kx_M_make 171 rfl) kc_i_1 <|
  sd_iadd (pc := 328) (kt_tab_get kx_M_make 172 rfl) <|
  sd_put (pc := 329) (k := 17) (ci := 7) kt_hc7 kt_hin7 tyX7_ok nmX7 (by decide) rfl rfl (Or.inl ⟨rfl, rfl⟩) (kt_tab_get kx_M_make 173 rfl) (kg_M_make_in _ (List.mem_of_getElem? (i := 7) rfl)) <|
  sd_aload_n (pc := 332) (kt_tab_get kx_M_make 174 rfl) rfl <|
  sd_iconst (pc := 333) (kt_tab_get kx_M_make 175 rfl) kc_i_1 <|
  sd_callV (pc := 334) km_M_get (by decide) kv_M_get (ci := 7) kt_hc7 (by decide) (kt_tab_get kx_M_make 176 rfl) (kg_M_make_in _ (List.mem_of_getElem? (i := 9) rfl)) <|
  sd_istore (pc := 337) (kt_tab_get kx_M_make 177 rfl) (by decide) <|
  sd_aload_n (pc := 339) (kt_tab_get kx_M_make 178 rfl) rfl <|
  sd_iload (pc := 340) (kt_tab_get kx_M_make 179 rfl) <|
  sd_iload_n (pc := 342) (kt_tab_get kx_M_make 180 rfl) rfl <|
  sd_iload_n (pc := 343) (kt_tab_get kx_M_make 181 rfl) rfl <|
  sd_aload_n (pc := 344) (kt_tab_get kx_M_make 182 rfl) rfl <|
  sd_get (pc := 345) (k := 17) (ci := 7) kt_hc7 kt_hin7 (by decide) (kt_tab_get kx_M_make 183 rfl) (kg_M_make_in _ (List.mem_of_getElem? (i := 7) rfl)) <|
  sd_iconst (pc := 348) (kt_tab_get kx_M_make 184 rfl) kc_i_0 <|
  sd_callV (pc := 349) km_M_put (by decide) kv_M_put (ci := 7) kt_hc7 (by decide) (kt_tab_get kx_M_make 185 rfl) (kg_M_make_in _ (List.mem_of_getElem? (i := 10) rfl)) <|
  sd_if_ne (pc := 352) (tgt := 357) (kt_tab_get kx_M_make 186 rfl) rfl (sd_drop (k := 3) kz_M_make_357) (sd_drop (k := 5) (sd_drop (k := 4) (sd_drop (k := 3) (sd_drop (k := 2) (sd_drop (k := 1) (sd_drop (k := 0) kz_M_make_355))))))
noncomputable def kd_M_make_310 : kt_D := ki_aload 0 <| ki_iload 4 <| ki_callV kt_shM 7 1 kf_M_canPut <| ki_if_ne kd_M_make_322 (ki_drop 4 (ki_drop 3 (ki_drop 2 (ki_drop 1 (ki_drop 0 kd_M_make_319)))))
theorem kz_M_make_310 : kt_Snd l kt_shM kb_M_make 6 RX7 (some .int) 4 0 0 false false 310 kd_M_make_310 :=
  sd_aload_n (pc := 310) (kt_tab_get kx_M_make 162 rfl) rfl <|
  sd_iload (pc := 311) (kt_tab_get kx_M_make 163 rfl) <|
  sd_callV (pc := 313) km_M_canPut (by decide) kv_M_canPut (ci := 7) kt_hc7 (by decide) (kt_tab_get kx_M_make 164 rfl) (kg_M_make_in _ (List.mem_of_getElem? (i := 11) rfl)) <|
  sd_if_ne (pc := 316) (tgt := 322) (kt_tab_get kx_M_make 165 rfl) rfl kz_M_make_322 (sd_drop (k := 4) (sd_drop (k := 3) (sd_drop (k := 2) (sd_drop (k := 1) (sd_drop (k := 0) kz_M_make_319)))))
noncomputable def kd_M_make_305 : kt_D := ki_iload 4 <| ki_if_eq (ki_drop 4 (ki_drop 3 (ki_drop 2 (ki_drop 1 (ki_drop 0 kd_M_make_319))))) kd_M_make_310
theorem kz_M_make_305 : kt_Snd l kt_shM kb_M_make 6 RX7 (some .int) 4 0 0 false false 305 kd_M_make_305 :=
  sd_iload (pc := 305) (kt_tab_get kx_M_make 160 rfl) <|
  sd_if_eq (pc := 307) (tgt := 319) (kt_tab_get kx_M_make 161 rfl) rfl (sd_drop (k := 4) (sd_drop (k := 3) (sd_drop (k := 2) (sd_drop (k := 1) (sd_drop (k := 0) kz_M_make_319))))) kz_M_make_310
noncomputable def kd_M_make_297 (kh_252 : kt_D) : kt_D := ki_istore 4 <| ki_iinc 5 1 <| kh_252
theorem kz_M_make_297 {kh_252 : kt_D} (zh_252 : kt_Snd l kt_shM kb_M_make 6 RX7 (some .int) 4 0 0 false false 252 kh_252) : kt_Snd l kt_shM kb_M_make 6 RX7 (some .int) 4 0 0 false false 297 (kd_M_make_297 kh_252) :=
  sd_istore (pc := 297) (kt_tab_get kx_M_make 157 rfl) (by decide) <|
  sd_iinc (pc := 299) (kt_tab_get kx_M_make 158 rfl) kc_i_1 (by decide) <|
  sd_goto (pc := 302) (tgt := 252) (kt_tab_get kx_M_make 159 rfl) rfl zh_252
noncomputable def kd_M_make_295 (kh_252 : kt_D) : kt_D := ki_iload 4 <| (ki_drop 4 (kd_M_make_297 kh_252))
theorem kz_M_make_295 {kh_252 : kt_D} (zh_252 : kt_Snd l kt_shM kb_M_make 6 RX7 (some .int) 4 0 0 false false 252 kh_252) : kt_Snd l kt_shM kb_M_make 6 RX7 (some .int) 4 0 0 false false 295 (kd_M_make_295 kh_252) :=
  sd_iload (pc := 295) (kt_tab_get kx_M_make 156 rfl) <|
  (sd_drop (k := 4) (kz_M_make_297 zh_252))
noncomputable def kd_M_make_290 (kh_252 : kt_D) : kt_D := ki_iload 5 <| (kd_M_make_297 kh_252)
theorem kz_M_make_290 {kh_252 : kt_D} (zh_252 : kt_Snd l kt_shM kb_M_make 6 RX7 (some .int) 4 0 0 false false 252 kh_252) : kt_Snd l kt_shM kb_M_make 6 RX7 (some .int) 4 0 0 false false 290 (kd_M_make_290 kh_252) :=
  sd_iload (pc := 290) (kt_tab_get kx_M_make 154 rfl) <|
  sd_goto (pc := 292) (tgt := 297) (kt_tab_get kx_M_make 155 rfl) rfl (kz_M_make_297 zh_252)
noncomputable def kd_M_make_279 (kh_252 : kt_D) : kt_D := ki_aload 0 <| ki_iload 5 <| ki_push (.int 2) <| ki_callV kt_shM 7 2 kf_M_data <| ki_iload 3 <| ki_icmp_ne (kd_M_make_295 kh_252) (ki_drop 4 (kd_M_make_290 kh_252))
theorem kz_M_make_279 {kh_252 : kt_D} (zh_252 : kt_Snd l kt_shM kb_M_make 6 RX7 (some .int) 4 0 0 false false 252 kh_252) : kt_Snd l kt_shM kb_M_make 6 RX7 (some .int) 4 0 0 false false 279 (kd_M_make_279 kh_252) :=
  sd_aload_n (pc := 279) (kt_tab_get kx_M_make 148 rfl) rfl <|
  sd_iload (pc := 280) (kt_tab_get kx_M_make 149 rfl) <|
  sd_iconst (pc := 282) (kt_tab_get kx_M_make 150 rfl) kc_i_2 <|
  sd_callV (pc := 283) km_M_data (by decide) kv_M_data (ci := 7) kt_hc7 (by decide) (kt_tab_get kx_M_make 151 rfl) (kg_M_make_in _ (List.mem_of_getElem? (i := 12) rfl)) <|
  sd_iload_n (pc := 286) (kt_tab_get kx_M_make 152 rfl) rfl <|
  sd_icmp_ne (pc := 287) (tgt := 295) (kt_tab_get kx_M_make 153 rfl) rfl (kz_M_make_295 zh_252) (sd_drop (k := 4) (kz_M_make_290 zh_252))
noncomputable def kd_M_make_268 (kh_252 : kt_D) : kt_D := ki_aload 0 <| ki_iload 5 <| ki_push (.int 1) <| ki_callV kt_shM 7 2 kf_M_data <| ki_iload 2 <| ki_icmp_ne (kd_M_make_295 kh_252) (kd_M_make_279 kh_252)
theorem kz_M_make_268 {kh_252 : kt_D} (zh_252 : kt_Snd l kt_shM kb_M_make 6 RX7 (some .int) 4 0 0 false false 252 kh_252) : kt_Snd l kt_shM kb_M_make 6 RX7 (some .int) 4 0 0 false false 268 (kd_M_make_268 kh_252) :=
  sd_aload_n (pc := 268) (kt_tab_get kx_M_make 142 rfl) rfl <|
  sd_iload (pc := 269) (kt_tab_get kx_M_make 143 rfl) <|
  sd_iconst (pc := 271) (kt_tab_get kx_M_make 144 rfl) kc_i_1 <|
  sd_callV (pc := 272) km_M_data (by decide) kv_M_data (ci := 7) kt_hc7 (by decide) (kt_tab_get kx_M_make 145 rfl) (kg_M_make_in _ (List.mem_of_getElem? (i := 12) rfl)) <|
  sd_iload_n (pc := 275) (kt_tab_get kx_M_make 146 rfl) rfl <|
  sd_icmp_ne (pc := 276) (tgt := 295) (kt_tab_get kx_M_make 147 rfl) rfl (kz_M_make_295 zh_252) (kz_M_make_279 zh_252)
noncomputable def kd_M_make_259 (kh_252 : kt_D) : kt_D := ki_aload 0 <| ki_iload 5 <| ki_callV kt_shM 7 1 kf_M_page <| ki_if_lt (kd_M_make_295 kh_252) (kd_M_make_268 kh_252)
theorem kz_M_make_259 {kh_252 : kt_D} (zh_252 : kt_Snd l kt_shM kb_M_make 6 RX7 (some .int) 4 0 0 false false 252 kh_252) : kt_Snd l kt_shM kb_M_make 6 RX7 (some .int) 4 0 0 false false 259 (kd_M_make_259 kh_252) :=
  sd_aload_n (pc := 259) (kt_tab_get kx_M_make 138 rfl) rfl <|
  sd_iload (pc := 260) (kt_tab_get kx_M_make 139 rfl) <|
  sd_callV (pc := 262) km_M_page (by decide) kv_M_page (ci := 7) kt_hc7 (by decide) (kt_tab_get kx_M_make 140 rfl) (kg_M_make_in _ (List.mem_of_getElem? (i := 13) rfl)) <|
  sd_if_lt (pc := 265) (tgt := 295) (kt_tab_get kx_M_make 141 rfl) rfl (kz_M_make_295 zh_252) (kz_M_make_268 zh_252)
noncomputable def kd_M_make_252b (kh_252 : kt_D) : kt_D := ki_iload 5 <| ki_push (.int 7) <| ki_icmp_ge (ki_drop 5 kd_M_make_305) (kd_M_make_259 kh_252)
theorem kz_M_make_252b {kh_252 : kt_D} (zh_252 : kt_Snd l kt_shM kb_M_make 6 RX7 (some .int) 4 0 0 false false 252 kh_252) : kt_Snd l kt_shM kb_M_make 6 RX7 (some .int) 4 0 0 false false 252 (kd_M_make_252b kh_252) :=
  sd_iload (pc := 252) (kt_tab_get kx_M_make 135 rfl) <|
  sd_bipush (pc := 254) (kt_tab_get kx_M_make 136 rfl) kc_b_7 <|
  sd_icmp_ge (pc := 256) (tgt := 305) (kt_tab_get kx_M_make 137 rfl) rfl (sd_drop (k := 5) kz_M_make_305) (kz_M_make_259 zh_252)
noncomputable def kd_M_make_252 (n : Nat) : kt_D := Nat.rec (fun _ _ _ => none) (fun _ ih => kd_M_make_252b ih) n
theorem kz_M_make_252 (n : Nat) : kt_Snd l kt_shM kb_M_make 6 RX7 (some .int) 4 0 0 false false 252 (kd_M_make_252 n) := by
  induction n with
  | zero => exact sd_fail
  | succ n ih => exact kz_M_make_252b ih
noncomputable def kd_M_make_249 : kt_D := ki_push (.int 1) <| ki_istore 5 <| (kd_M_make_252 100)
theorem kz_M_make_249 : kt_Snd l kt_shM kb_M_make 6 RX7 (some .int) 4 0 0 false false 249 kd_M_make_249 :=
  sd_iconst (pc := 249) (kt_tab_get kx_M_make 133 rfl) kc_i_1 <|
  sd_istore (pc := 250) (kt_tab_get kx_M_make 134 rfl) (by decide) <|
  (kz_M_make_252 100)
noncomputable def kd_M_make_241 (kh_220 : kt_D) : kt_D := ki_istore 4 <| ki_iinc 5 (-1) <| kh_220
theorem kz_M_make_241 {kh_220 : kt_D} (zh_220 : kt_Snd l kt_shM kb_M_make 6 RX7 (some .int) 4 0 0 false false 220 kh_220) : kt_Snd l kt_shM kb_M_make 6 RX7 (some .int) 4 0 0 false false 241 (kd_M_make_241 kh_220) :=
  sd_istore (pc := 241) (kt_tab_get kx_M_make 130 rfl) (by decide) <|
  sd_iinc (pc := 243) (kt_tab_get kx_M_make 131 rfl) kc_i_m1 (by decide) <|
  sd_goto (pc := 246) (tgt := 220) (kt_tab_get kx_M_make 132 rfl) rfl zh_220
noncomputable def kd_M_make_239 (kh_220 : kt_D) : kt_D := ki_iload 4 <| (ki_drop 4 (kd_M_make_241 kh_220))
theorem kz_M_make_239 {kh_220 : kt_D} (zh_220 : kt_Snd l kt_shM kb_M_make 6 RX7 (some .int) 4 0 0 false false 220 kh_220) : kt_Snd l kt_shM kb_M_make 6 RX7 (some .int) 4 0 0 false false 239 (kd_M_make_239 kh_220) :=
  sd_iload (pc := 239) (kt_tab_get kx_M_make 129 rfl) <|
  (sd_drop (k := 4) (kz_M_make_241 zh_220))
noncomputable def kd_M_make_234 (kh_220 : kt_D) : kt_D := ki_iload 5 <| (kd_M_make_241 kh_220)
theorem kz_M_make_234 {kh_220 : kt_D} (zh_220 : kt_Snd l kt_shM kb_M_make 6 RX7 (some .int) 4 0 0 false false 220 kh_220) : kt_Snd l kt_shM kb_M_make 6 RX7 (some .int) 4 0 0 false false 234 (kd_M_make_234 kh_220) :=
  sd_iload (pc := 234) (kt_tab_get kx_M_make 127 rfl) <|
  sd_goto (pc := 236) (tgt := 241) (kt_tab_get kx_M_make 128 rfl) rfl (kz_M_make_241 zh_220)
noncomputable def kd_M_make_225 (kh_220 : kt_D) : kt_D := ki_aload 0 <| ki_iload 5 <| ki_callV kt_shM 7 1 kf_M_page <| ki_if_ge (kd_M_make_239 kh_220) (ki_drop 4 (kd_M_make_234 kh_220))
theorem kz_M_make_225 {kh_220 : kt_D} (zh_220 : kt_Snd l kt_shM kb_M_make 6 RX7 (some .int) 4 0 0 false false 220 kh_220) : kt_Snd l kt_shM kb_M_make 6 RX7 (some .int) 4 0 0 false false 225 (kd_M_make_225 kh_220) :=
  sd_aload_n (pc := 225) (kt_tab_get kx_M_make 123 rfl) rfl <|
  sd_iload (pc := 226) (kt_tab_get kx_M_make 124 rfl) <|
  sd_callV (pc := 228) km_M_page (by decide) kv_M_page (ci := 7) kt_hc7 (by decide) (kt_tab_get kx_M_make 125 rfl) (kg_M_make_in _ (List.mem_of_getElem? (i := 13) rfl)) <|
  sd_if_ge (pc := 231) (tgt := 239) (kt_tab_get kx_M_make 126 rfl) rfl (kz_M_make_239 zh_220) (sd_drop (k := 4) (kz_M_make_234 zh_220))
noncomputable def kd_M_make_220b (kh_220 : kt_D) : kt_D := ki_iload 5 <| ki_if_le (ki_drop 5 kd_M_make_249) (kd_M_make_225 kh_220)
theorem kz_M_make_220b {kh_220 : kt_D} (zh_220 : kt_Snd l kt_shM kb_M_make 6 RX7 (some .int) 4 0 0 false false 220 kh_220) : kt_Snd l kt_shM kb_M_make 6 RX7 (some .int) 4 0 0 false false 220 (kd_M_make_220b kh_220) :=
  sd_iload (pc := 220) (kt_tab_get kx_M_make 121 rfl) <|
  sd_if_le (pc := 222) (tgt := 249) (kt_tab_get kx_M_make 122 rfl) rfl (sd_drop (k := 5) kz_M_make_249) (kz_M_make_225 zh_220)
noncomputable def kd_M_make_220 (n : Nat) : kt_D := Nat.rec (fun _ _ _ => none) (fun _ ih => kd_M_make_220b ih) n
theorem kz_M_make_220 (n : Nat) : kt_Snd l kt_shM kb_M_make 6 RX7 (some .int) 4 0 0 false false 220 (kd_M_make_220 n) := by
  induction n with
  | zero => exact sd_fail
  | succ n ih => exact kz_M_make_220b ih
noncomputable def kd_M_make_202 : kt_D := ki_aload 0 <| ki_push (.int 0) <| ki_put kt_shM 7 6 1 <| ki_aload 0 <| ki_push (.int 3) <| ki_callV kt_shM 7 1 kf_M_get <| ki_istore 3 <| ki_push (.int 0) <| ki_istore 4 <| ki_push (.int 6) <| ki_istore 5 <| (kd_M_make_220 100)
theorem kz_M_make_202 : kt_Snd l kt_shM kb_M_make 6 RX7 (some .int) 4 0 0 false false 202 kd_M_make_202 :=
  sd_aload_n (pc := 202) (kt_tab_get kx_M_make 110 rfl) rfl <|
  sd_iconst (pc := 203) (kt_tab_get kx_M_make 111 rfl) kc_i_0 <|
  sd_put (pc := 204) (k := 6) (ci := 7) kt_hc7 kt_hin7 tyX7_ok nmX7 (by decide) rfl rfl (Or.inr ⟨rfl, rfl⟩) (kt_tab_get kx_M_make 112 rfl) (kg_M_make_in _ (List.mem_of_getElem? (i := 14) rfl)) <|
  sd_aload_n (pc := 207) (kt_tab_get kx_M_make 113 rfl) rfl <|
  sd_iconst (pc := 208) (kt_tab_get kx_M_make 114 rfl) kc_i_3 <|
  sd_callV (pc := 209) km_M_get (by decide) kv_M_get (ci := 7) kt_hc7 (by decide) (kt_tab_get kx_M_make 115 rfl) (kg_M_make_in _ (List.mem_of_getElem? (i := 9) rfl)) <|
  sd_istore_n (pc := 212) (kt_tab_get kx_M_make 116 rfl) rfl (by decide) <|
  sd_iconst (pc := 213) (kt_tab_get kx_M_make 117 rfl) kc_i_0 <|
  sd_istore (pc := 214) (kt_tab_get kx_M_make 118 rfl) (by decide) <|
  sd_bipush (pc := 216) (kt_tab_get kx_M_make 119 rfl) kc_b_6 <|
  sd_istore (pc := 218) (kt_tab_get kx_M_make 120 rfl) (by decide) <|
  (kz_M_make_220 100)
noncomputable def kd_M_make_199 : kt_D := ki_push (.int 7) <| ki_iret
theorem kz_M_make_199 : kt_Snd l kt_shM kb_M_make 6 RX7 (some .int) 4 0 0 false false 199 kd_M_make_199 :=
  sd_bipush (pc := 199) (kt_tab_get kx_M_make 108 rfl) kc_b_7 <|
  sd_iret (pc := 201) rfl (by decide) (kt_tab_get kx_M_make 109 rfl)
noncomputable def kd_M_make_192 : kt_D := ki_aload 0 <| ki_get kt_shM 7 6 <| ki_if_ne kd_M_make_202 (ki_drop 2 (ki_drop 1 (ki_drop 0 kd_M_make_199)))
theorem kz_M_make_192 : kt_Snd l kt_shM kb_M_make 6 RX7 (some .int) 4 0 0 false false 192 kd_M_make_192 :=
  sd_aload_n (pc := 192) (kt_tab_get kx_M_make 105 rfl) rfl <|
  sd_get (pc := 193) (k := 6) (ci := 7) kt_hc7 kt_hin7 (by decide) (kt_tab_get kx_M_make 106 rfl) (kg_M_make_in _ (List.mem_of_getElem? (i := 14) rfl)) <|
  sd_if_ne (pc := 196) (tgt := 202) (kt_tab_get kx_M_make 107 rfl) rfl kz_M_make_202 (sd_drop (k := 2) (sd_drop (k := 1) (sd_drop (k := 0) kz_M_make_199)))
noncomputable def kd_M_make_186 (kh_142 : kt_D) : kt_D := ki_iinc 3 1 <| kh_142
theorem kz_M_make_186 {kh_142 : kt_D} (zh_142 : kt_Snd l kt_shM kb_M_make 6 RX7 (some .int) 4 0 0 false false 142 kh_142) : kt_Snd l kt_shM kb_M_make 6 RX7 (some .int) 4 0 0 false false 186 (kd_M_make_186 kh_142) :=
  sd_iinc (pc := 186) (kt_tab_get kx_M_make 103 rfl) kc_i_1 (by decide) <|
  sd_goto (pc := 189) (tgt := 142) (kt_tab_get kx_M_make 104 rfl) rfl zh_142
noncomputable def kd_M_make_183 : kt_D := ki_push (.int 8) <| ki_iret
theorem kz_M_make_183 : kt_Snd l kt_shM kb_M_make 6 RX7 (some .int) 4 0 0 false false 183 kd_M_make_183 :=
  sd_bipush (pc := 183) (kt_tab_get kx_M_make 101 rfl) kc_b_8 <|
  sd_iret (pc := 185) rfl (by decide) (kt_tab_get kx_M_make 102 rfl)
noncomputable def kd_M_make_174 (kh_142 : kt_D) : kt_D := ki_aload 0 <| ki_push (.int 5) <| ki_iload 3 <| ki_callV kt_shM 7 2 kf_M_listed <| ki_if_eq (kd_M_make_186 kh_142) (ki_drop 3 (ki_drop 2 (ki_drop 1 (ki_drop 0 kd_M_make_183))))
theorem kz_M_make_174 {kh_142 : kt_D} (zh_142 : kt_Snd l kt_shM kb_M_make 6 RX7 (some .int) 4 0 0 false false 142 kh_142) : kt_Snd l kt_shM kb_M_make 6 RX7 (some .int) 4 0 0 false false 174 (kd_M_make_174 kh_142) :=
  sd_aload_n (pc := 174) (kt_tab_get kx_M_make 96 rfl) rfl <|
  sd_iconst (pc := 175) (kt_tab_get kx_M_make 97 rfl) kc_i_5 <|
  sd_iload_n (pc := 176) (kt_tab_get kx_M_make 98 rfl) rfl <|
  sd_callV (pc := 177) km_M_listed (by decide) kv_M_listed (ci := 7) kt_hc7 (by decide) (kt_tab_get kx_M_make 99 rfl) (kg_M_make_in _ (List.mem_of_getElem? (i := 15) rfl)) <|
  sd_if_eq (pc := 180) (tgt := 186) (kt_tab_get kx_M_make 100 rfl) rfl (kz_M_make_186 zh_142) (sd_drop (k := 3) (sd_drop (k := 2) (sd_drop (k := 1) (sd_drop (k := 0) kz_M_make_183))))
noncomputable def kd_M_make_164 (kh_142 : kt_D) : kt_D := ki_aload 0 <| ki_iload 3 <| ki_push (.int 1) <| ki_callV kt_shM 7 2 kf_M_data <| ki_iload 2 <| ki_icmp_ne (kd_M_make_186 kh_142) (kd_M_make_174 kh_142)
theorem kz_M_make_164 {kh_142 : kt_D} (zh_142 : kt_Snd l kt_shM kb_M_make 6 RX7 (some .int) 4 0 0 false false 142 kh_142) : kt_Snd l kt_shM kb_M_make 6 RX7 (some .int) 4 0 0 false false 164 (kd_M_make_164 kh_142) :=
  sd_aload_n (pc := 164) (kt_tab_get kx_M_make 90 rfl) rfl <|
  sd_iload_n (pc := 165) (kt_tab_get kx_M_make 91 rfl) rfl <|
  sd_iconst (pc := 166) (kt_tab_get kx_M_make 92 rfl) kc_i_1 <|
  sd_callV (pc := 167) km_M_data (by decide) kv_M_data (ci := 7) kt_hc7 (by decide) (kt_tab_get kx_M_make 93 rfl) (kg_M_make_in _ (List.mem_of_getElem? (i := 12) rfl)) <|
  sd_iload_n (pc := 170) (kt_tab_get kx_M_make 94 rfl) rfl <|
  sd_icmp_ne (pc := 171) (tgt := 186) (kt_tab_get kx_M_make 95 rfl) rfl (kz_M_make_186 zh_142) (kz_M_make_174 zh_142)
noncomputable def kd_M_make_156 (kh_142 : kt_D) : kt_D := ki_aload 0 <| ki_iload 3 <| ki_callV kt_shM 7 1 kf_M_page <| ki_if_lt (kd_M_make_186 kh_142) (kd_M_make_164 kh_142)
theorem kz_M_make_156 {kh_142 : kt_D} (zh_142 : kt_Snd l kt_shM kb_M_make 6 RX7 (some .int) 4 0 0 false false 142 kh_142) : kt_Snd l kt_shM kb_M_make 6 RX7 (some .int) 4 0 0 false false 156 (kd_M_make_156 kh_142) :=
  sd_aload_n (pc := 156) (kt_tab_get kx_M_make 86 rfl) rfl <|
  sd_iload_n (pc := 157) (kt_tab_get kx_M_make 87 rfl) rfl <|
  sd_callV (pc := 158) km_M_page (by decide) kv_M_page (ci := 7) kt_hc7 (by decide) (kt_tab_get kx_M_make 88 rfl) (kg_M_make_in _ (List.mem_of_getElem? (i := 13) rfl)) <|
  sd_if_lt (pc := 161) (tgt := 186) (kt_tab_get kx_M_make 89 rfl) rfl (kz_M_make_186 zh_142) (kz_M_make_164 zh_142)
noncomputable def kd_M_make_148 (kh_142 : kt_D) : kt_D := ki_aload 0 <| ki_push (.int 5) <| ki_callV kt_shM 7 1 kf_M_there <| ki_if_eq (ki_drop 3 kd_M_make_192) (kd_M_make_156 kh_142)
theorem kz_M_make_148 {kh_142 : kt_D} (zh_142 : kt_Snd l kt_shM kb_M_make 6 RX7 (some .int) 4 0 0 false false 142 kh_142) : kt_Snd l kt_shM kb_M_make 6 RX7 (some .int) 4 0 0 false false 148 (kd_M_make_148 kh_142) :=
  sd_aload_n (pc := 148) (kt_tab_get kx_M_make 82 rfl) rfl <|
  sd_iconst (pc := 149) (kt_tab_get kx_M_make 83 rfl) kc_i_5 <|
  sd_callV (pc := 150) km_M_there (by decide) kv_M_there (ci := 7) kt_hc7 (by decide) (kt_tab_get kx_M_make 84 rfl) (kg_M_make_in _ (List.mem_of_getElem? (i := 16) rfl)) <|
  sd_if_eq (pc := 153) (tgt := 192) (kt_tab_get kx_M_make 85 rfl) rfl (sd_drop (k := 3) kz_M_make_192) (kz_M_make_156 zh_142)
noncomputable def kd_M_make_142b (kh_142 : kt_D) : kt_D := ki_iload 3 <| ki_push (.int 7) <| ki_icmp_ge (ki_drop 3 kd_M_make_192) (kd_M_make_148 kh_142)
theorem kz_M_make_142b {kh_142 : kt_D} (zh_142 : kt_Snd l kt_shM kb_M_make 6 RX7 (some .int) 4 0 0 false false 142 kh_142) : kt_Snd l kt_shM kb_M_make 6 RX7 (some .int) 4 0 0 false false 142 (kd_M_make_142b kh_142) :=
  sd_iload_n (pc := 142) (kt_tab_get kx_M_make 79 rfl) rfl <|
  sd_bipush (pc := 143) (kt_tab_get kx_M_make 80 rfl) kc_b_7 <|
  sd_icmp_ge (pc := 145) (tgt := 192) (kt_tab_get kx_M_make 81 rfl) rfl (sd_drop (k := 3) kz_M_make_192) (kz_M_make_148 zh_142)
noncomputable def kd_M_make_142 (n : Nat) : kt_D := Nat.rec (fun _ _ _ => none) (fun _ ih => kd_M_make_142b ih) n
theorem kz_M_make_142 (n : Nat) : kt_Snd l kt_shM kb_M_make 6 RX7 (some .int) 4 0 0 false false 142 (kd_M_make_142 n) := by
  induction n with
  | zero => exact sd_fail
  | succ n ih => exact kz_M_make_142b ih
noncomputable def kd_M_make_134 : kt_D := ki_aload 0 <| ki_push (.int 2) <| ki_callV kt_shM 7 1 kf_M_textNumber <| ki_istore 2 <| ki_push (.int 1) <| ki_istore 3 <| (kd_M_make_142 100)
theorem kz_M_make_134 : kt_Snd l kt_shM kb_M_make 6 RX7 (some .int) 4 0 0 false false 134 kd_M_make_134 :=
  sd_aload_n (pc := 134) (kt_tab_get kx_M_make 73 rfl) rfl <|
  sd_iconst (pc := 135) (kt_tab_get kx_M_make 74 rfl) kc_i_2 <|
  sd_callV (pc := 136) km_M_textNumber (by decide) kv_M_textNumber (ci := 7) kt_hc7 (by decide) (kt_tab_get kx_M_make 75 rfl) (kg_M_make_in _ (List.mem_of_getElem? (i := 17) rfl)) <|
  sd_istore_n (pc := 139) (kt_tab_get kx_M_make 76 rfl) rfl (by decide) <|
  sd_iconst (pc := 140) (kt_tab_get kx_M_make 77 rfl) kc_i_1 <|
  sd_istore_n (pc := 141) (kt_tab_get kx_M_make 78 rfl) rfl (by decide) <|
  (kz_M_make_142 100)
noncomputable def kd_M_make_131 : kt_D := ki_push (.int 14) <| ki_iret
theorem kz_M_make_131 : kt_Snd l kt_shM kb_M_make 6 RX7 (some .int) 4 0 0 false false 131 kd_M_make_131 :=
  sd_bipush (pc := 131) (kt_tab_get kx_M_make 71 rfl) kc_b_14 <|
  sd_iret (pc := 133) rfl (by decide) (kt_tab_get kx_M_make 72 rfl)
noncomputable def kd_M_make_122 : kt_D := ki_aload 0 <| ki_push (.int 8) <| ki_callV kt_shM 7 1 kf_M_ticketWrong <| ki_if_eq kd_M_make_134 (ki_drop 1 (ki_drop 0 kd_M_make_131))
theorem kz_M_make_122 : kt_Snd l kt_shM kb_M_make 6 RX7 (some .int) 4 0 0 false false 122 kd_M_make_122 :=
  sd_aload_n (pc := 122) (kt_tab_get kx_M_make 67 rfl) rfl <|
  sd_bipush (pc := 123) (kt_tab_get kx_M_make 68 rfl) kc_b_8 <|
  sd_callV (pc := 125) km_M_ticketWrong (by decide) kv_M_ticketWrong (ci := 7) kt_hc7 (by decide) (kt_tab_get kx_M_make 69 rfl) (kg_M_make_in _ (List.mem_of_getElem? (i := 18) rfl)) <|
  sd_if_eq (pc := 128) (tgt := 134) (kt_tab_get kx_M_make 70 rfl) rfl kz_M_make_134 (sd_drop (k := 1) (sd_drop (k := 0) kz_M_make_131))
noncomputable def kd_M_make_113 : kt_D := ki_aload 0 <| ki_push (.int 8) <| ki_callV kt_shM 7 1 kf_M_there <| ki_if_eq (ki_drop 1 (ki_drop 0 kd_M_make_131)) kd_M_make_122
theorem kz_M_make_113 : kt_Snd l kt_shM kb_M_make 6 RX7 (some .int) 4 0 0 false false 113 kd_M_make_113 :=
  sd_aload_n (pc := 113) (kt_tab_get kx_M_make 63 rfl) rfl <|
  sd_bipush (pc := 114) (kt_tab_get kx_M_make 64 rfl) kc_b_8 <|
  sd_callV (pc := 116) km_M_there (by decide) kv_M_there (ci := 7) kt_hc7 (by decide) (kt_tab_get kx_M_make 65 rfl) (kg_M_make_in _ (List.mem_of_getElem? (i := 16) rfl)) <|
  sd_if_eq (pc := 119) (tgt := 131) (kt_tab_get kx_M_make 66 rfl) rfl (sd_drop (k := 1) (sd_drop (k := 0) kz_M_make_131)) kz_M_make_122
noncomputable def kd_M_make_108 : kt_D := ki_istore 1 <| ki_iload 1 <| ki_if_eq kd_M_make_134 kd_M_make_113
theorem kz_M_make_108 : kt_Snd l kt_shM kb_M_make 6 RX7 (some .int) 4 0 0 false false 108 kd_M_make_108 :=
  sd_istore_n (pc := 108) (kt_tab_get kx_M_make 60 rfl) rfl (by decide) <|
  sd_iload_n (pc := 109) (kt_tab_get kx_M_make 61 rfl) rfl <|
  sd_if_eq (pc := 110) (tgt := 134) (kt_tab_get kx_M_make 62 rfl) rfl kz_M_make_134 kz_M_make_113
noncomputable def kd_M_make_107 : kt_D := ki_push (.int 0) <| kd_M_make_108
theorem kz_M_make_107 : kt_Snd l kt_shM kb_M_make 6 RX7 (some .int) 4 0 0 false false 107 kd_M_make_107 :=
  sd_iconst (pc := 107) (kt_tab_get kx_M_make 59 rfl) kc_i_0 <|
  kz_M_make_108
noncomputable def kd_M_make_103 : kt_D := ki_push (.int 1) <| kd_M_make_108
theorem kz_M_make_103 : kt_Snd l kt_shM kb_M_make 6 RX7 (some .int) 4 0 0 false false 103 kd_M_make_103 :=
  sd_iconst (pc := 103) (kt_tab_get kx_M_make 57 rfl) kc_i_1 <|
  sd_goto (pc := 104) (tgt := 108) (kt_tab_get kx_M_make 58 rfl) rfl kz_M_make_108
noncomputable def kd_M_make_95 : kt_D := ki_aload 0 <| ki_push (.int 0) <| ki_callV kt_shM 7 1 kf_M_page <| ki_if_lt kd_M_make_107 kd_M_make_103
theorem kz_M_make_95 : kt_Snd l kt_shM kb_M_make 6 RX7 (some .int) 4 0 0 false false 95 kd_M_make_95 :=
  sd_aload_n (pc := 95) (kt_tab_get kx_M_make 53 rfl) rfl <|
  sd_iconst (pc := 96) (kt_tab_get kx_M_make 54 rfl) kc_i_0 <|
  sd_callV (pc := 97) km_M_page (by decide) kv_M_page (ci := 7) kt_hc7 (by decide) (kt_tab_get kx_M_make 55 rfl) (kg_M_make_in _ (List.mem_of_getElem? (i := 13) rfl)) <|
  sd_if_lt (pc := 100) (tgt := 107) (kt_tab_get kx_M_make 56 rfl) rfl kz_M_make_107 kz_M_make_103
noncomputable def kd_M_make_83 : kt_D := ki_aload 0 <| ki_push (.int 2) <| ki_callV kt_shM 7 1 kf_M_get <| ki_push (.int 8) <| ki_icmp_le kd_M_make_95 (ki_drop 0 kd_M_make_93)
theorem kz_M_make_83 : kt_Snd l kt_shM kb_M_make 6 RX7 (some .int) 4 0 0 false false 83 kd_M_make_83 :=
  sd_aload_n (pc := 83) (kt_tab_get kx_M_make 46 rfl) rfl <|
  sd_iconst (pc := 84) (kt_tab_get kx_M_make 47 rfl) kc_i_2 <|
  sd_callV (pc := 85) km_M_get (by decide) kv_M_get (ci := 7) kt_hc7 (by decide) (kt_tab_get kx_M_make 48 rfl) (kg_M_make_in _ (List.mem_of_getElem? (i := 9) rfl)) <|
  sd_bipush (pc := 88) (kt_tab_get kx_M_make 49 rfl) kc_b_8 <|
  sd_icmp_le (pc := 90) (tgt := 95) (kt_tab_get kx_M_make 50 rfl) rfl kz_M_make_95 (sd_drop (k := 0) kz_M_make_93)
noncomputable def kd_M_make_74 : kt_D := ki_aload 0 <| ki_push (.int 2) <| ki_callV kt_shM 7 1 kf_M_get <| ki_push (.int 1) <| ki_icmp_lt (ki_drop 0 kd_M_make_93) kd_M_make_83
theorem kz_M_make_74 : kt_Snd l kt_shM kb_M_make 6 RX7 (some .int) 4 0 0 false false 74 kd_M_make_74 :=
  sd_aload_n (pc := 74) (kt_tab_get kx_M_make 41 rfl) rfl <|
  sd_iconst (pc := 75) (kt_tab_get kx_M_make 42 rfl) kc_i_2 <|
  sd_callV (pc := 76) km_M_get (by decide) kv_M_get (ci := 7) kt_hc7 (by decide) (kt_tab_get kx_M_make 43 rfl) (kg_M_make_in _ (List.mem_of_getElem? (i := 9) rfl)) <|
  sd_iconst (pc := 79) (kt_tab_get kx_M_make 44 rfl) kc_i_1 <|
  sd_icmp_lt (pc := 80) (tgt := 93) (kt_tab_get kx_M_make 45 rfl) rfl (sd_drop (k := 0) kz_M_make_93) kz_M_make_83
noncomputable def kd_M_make_64 : kt_D := ki_aload 0 <| ki_push (.int 3) <| ki_callV kt_shM 7 1 kf_M_there <| ki_if_ne kd_M_make_74 (ki_drop 0 kd_M_make_72)
theorem kz_M_make_64 : kt_Snd l kt_shM kb_M_make 6 RX7 (some .int) 4 0 0 false false 64 kd_M_make_64 :=
  sd_aload_n (pc := 64) (kt_tab_get kx_M_make 35 rfl) rfl <|
  sd_iconst (pc := 65) (kt_tab_get kx_M_make 36 rfl) kc_i_3 <|
  sd_callV (pc := 66) km_M_there (by decide) kv_M_there (ci := 7) kt_hc7 (by decide) (kt_tab_get kx_M_make 37 rfl) (kg_M_make_in _ (List.mem_of_getElem? (i := 16) rfl)) <|
  sd_if_ne (pc := 69) (tgt := 74) (kt_tab_get kx_M_make 38 rfl) rfl kz_M_make_74 (sd_drop (k := 0) kz_M_make_72)
noncomputable def kd_M_make_56 : kt_D := ki_aload 0 <| ki_push (.int 2) <| ki_callV kt_shM 7 1 kf_M_there <| ki_if_eq (ki_drop 0 kd_M_make_72) kd_M_make_64
theorem kz_M_make_56 : kt_Snd l kt_shM kb_M_make 6 RX7 (some .int) 4 0 0 false false 56 kd_M_make_56 :=
  sd_aload_n (pc := 56) (kt_tab_get kx_M_make 31 rfl) rfl <|
  sd_iconst (pc := 57) (kt_tab_get kx_M_make 32 rfl) kc_i_2 <|
  sd_callV (pc := 58) km_M_there (by decide) kv_M_there (ci := 7) kt_hc7 (by decide) (kt_tab_get kx_M_make 33 rfl) (kg_M_make_in _ (List.mem_of_getElem? (i := 16) rfl)) <|
  sd_if_eq (pc := 61) (tgt := 72) (kt_tab_get kx_M_make 34 rfl) rfl (sd_drop (k := 0) kz_M_make_72) kz_M_make_64
noncomputable def kd_M_make_48 : kt_D := ki_aload 0 <| ki_push (.int 1) <| ki_callV kt_shM 7 1 kf_M_there <| ki_if_eq (ki_drop 0 kd_M_make_72) kd_M_make_56
theorem kz_M_make_48 : kt_Snd l kt_shM kb_M_make 6 RX7 (some .int) 4 0 0 false false 48 kd_M_make_48 :=
  sd_aload_n (pc := 48) (kt_tab_get kx_M_make 27 rfl) rfl <|
  sd_iconst (pc := 49) (kt_tab_get kx_M_make 28 rfl) kc_i_1 <|
  sd_callV (pc := 50) km_M_there (by decide) kv_M_there (ci := 7) kt_hc7 (by decide) (kt_tab_get kx_M_make 29 rfl) (kg_M_make_in _ (List.mem_of_getElem? (i := 16) rfl)) <|
  sd_if_eq (pc := 53) (tgt := 72) (kt_tab_get kx_M_make 30 rfl) rfl (sd_drop (k := 0) kz_M_make_72) kz_M_make_56
noncomputable def kd_M_make_36 : kt_D := ki_aload 0 <| ki_push (.int 8) <| ki_push (.int 0) <| ki_callV kt_shM 7 2 kf_M_is <| ki_if_ne kd_M_make_48 (ki_drop 0 kd_M_make_46)
theorem kz_M_make_36 : kt_Snd l kt_shM kb_M_make 6 RX7 (some .int) 4 0 0 false false 36 kd_M_make_36 :=
  sd_aload_n (pc := 36) (kt_tab_get kx_M_make 20 rfl) rfl <|
  sd_bipush (pc := 37) (kt_tab_get kx_M_make 21 rfl) kc_b_8 <|
  sd_iconst (pc := 39) (kt_tab_get kx_M_make 22 rfl) kc_i_0 <|
  sd_callV (pc := 40) km_M_is (by decide) kv_M_is (ci := 7) kt_hc7 (by decide) (kt_tab_get kx_M_make 23 rfl) (kg_M_make_in _ (List.mem_of_getElem? (i := 19) rfl)) <|
  sd_if_ne (pc := 43) (tgt := 48) (kt_tab_get kx_M_make 24 rfl) rfl kz_M_make_48 (sd_drop (k := 0) kz_M_make_46)
noncomputable def kd_M_make_27 : kt_D := ki_aload 0 <| ki_push (.int 5) <| ki_push (.int 4) <| ki_callV kt_shM 7 2 kf_M_is <| ki_if_eq (ki_drop 0 kd_M_make_46) kd_M_make_36
theorem kz_M_make_27 : kt_Snd l kt_shM kb_M_make 6 RX7 (some .int) 4 0 0 false false 27 kd_M_make_27 :=
  sd_aload_n (pc := 27) (kt_tab_get kx_M_make 15 rfl) rfl <|
  sd_iconst (pc := 28) (kt_tab_get kx_M_make 16 rfl) kc_i_5 <|
  sd_iconst (pc := 29) (kt_tab_get kx_M_make 17 rfl) kc_i_4 <|
  sd_callV (pc := 30) km_M_is (by decide) kv_M_is (ci := 7) kt_hc7 (by decide) (kt_tab_get kx_M_make 18 rfl) (kg_M_make_in _ (List.mem_of_getElem? (i := 19) rfl)) <|
  sd_if_eq (pc := 33) (tgt := 46) (kt_tab_get kx_M_make 19 rfl) rfl (sd_drop (k := 0) kz_M_make_46) kz_M_make_36
noncomputable def kd_M_make_18 : kt_D := ki_aload 0 <| ki_push (.int 3) <| ki_push (.int 0) <| ki_callV kt_shM 7 2 kf_M_is <| ki_if_eq (ki_drop 0 kd_M_make_46) kd_M_make_27
theorem kz_M_make_18 : kt_Snd l kt_shM kb_M_make 6 RX7 (some .int) 4 0 0 false false 18 kd_M_make_18 :=
  sd_aload_n (pc := 18) (kt_tab_get kx_M_make 10 rfl) rfl <|
  sd_iconst (pc := 19) (kt_tab_get kx_M_make 11 rfl) kc_i_3 <|
  sd_iconst (pc := 20) (kt_tab_get kx_M_make 12 rfl) kc_i_0 <|
  sd_callV (pc := 21) km_M_is (by decide) kv_M_is (ci := 7) kt_hc7 (by decide) (kt_tab_get kx_M_make 13 rfl) (kg_M_make_in _ (List.mem_of_getElem? (i := 19) rfl)) <|
  sd_if_eq (pc := 24) (tgt := 46) (kt_tab_get kx_M_make 14 rfl) rfl (sd_drop (k := 0) kz_M_make_46) kz_M_make_27
noncomputable def kd_M_make_9 : kt_D := ki_aload 0 <| ki_push (.int 2) <| ki_push (.int 3) <| ki_callV kt_shM 7 2 kf_M_is <| ki_if_eq (ki_drop 0 kd_M_make_46) kd_M_make_18
theorem kz_M_make_9 : kt_Snd l kt_shM kb_M_make 6 RX7 (some .int) 4 0 0 false false 9 kd_M_make_9 :=
  sd_aload_n (pc := 9) (kt_tab_get kx_M_make 5 rfl) rfl <|
  sd_iconst (pc := 10) (kt_tab_get kx_M_make 6 rfl) kc_i_2 <|
  sd_iconst (pc := 11) (kt_tab_get kx_M_make 7 rfl) kc_i_3 <|
  sd_callV (pc := 12) km_M_is (by decide) kv_M_is (ci := 7) kt_hc7 (by decide) (kt_tab_get kx_M_make 8 rfl) (kg_M_make_in _ (List.mem_of_getElem? (i := 19) rfl)) <|
  sd_if_eq (pc := 15) (tgt := 46) (kt_tab_get kx_M_make 9 rfl) rfl (sd_drop (k := 0) kz_M_make_46) kz_M_make_18
noncomputable def kd_M_make_0 : kt_D := ki_aload 0 <| ki_push (.int 1) <| ki_push (.int 0) <| ki_callV kt_shM 7 2 kf_M_is <| ki_if_eq (ki_drop 0 kd_M_make_46) kd_M_make_9
theorem kz_M_make_0 : kt_Snd l kt_shM kb_M_make 6 RX7 (some .int) 4 0 0 false false 0 kd_M_make_0 :=
  sd_aload_n (pc := 0) (kt_tab_get kx_M_make 0 rfl) rfl <|
  sd_iconst (pc := 1) (kt_tab_get kx_M_make 1 rfl) kc_i_1 <|
  sd_iconst (pc := 2) (kt_tab_get kx_M_make 2 rfl) kc_i_0 <|
  sd_callV (pc := 3) km_M_is (by decide) kv_M_is (ci := 7) kt_hc7 (by decide) (kt_tab_get kx_M_make 3 rfl) (kg_M_make_in _ (List.mem_of_getElem? (i := 19) rfl)) <|
  sd_if_eq (pc := 6) (tgt := 46) (kt_tab_get kx_M_make 4 rfl) rfl (sd_drop (k := 0) kz_M_make_46) kz_M_make_9
noncomputable def kf_M_make : kt_F := kt_run 6 kd_M_make_0
theorem km_M_make : kt_M l kt_shM ky_M_make kb_M_make 6 (some .int) 4 false kf_M_make := kt_method (by decide) rfl kz_M_make_0
noncomputable def kd_M_signNext_168 : kt_D := ki_aload 0 <| ki_push (.int 6) <| ki_iload 4 <| ki_callV kt_shM 7 2 kf_M_pair <| ki_push (.int 0) <| ki_iret
theorem kz_M_signNext_168 : kt_Snd l kt_shM kb_M_signNext 7 RX7 (some .int) 4 0 0 false false 168 kd_M_signNext_168 :=
  sd_aload_n (pc := 168) (kt_tab_get kx_M_signNext 101 rfl) rfl <|
  sd_bipush (pc := 169) (kt_tab_get kx_M_signNext 102 rfl) kc_b_6 <|
  sd_iload (pc := 171) (kt_tab_get kx_M_signNext 103 rfl) <|
  sd_callV (pc := 173) km_M_pair (by decide) kv_M_pair (ci := 7) kt_hc7 (by decide) (kt_tab_get kx_M_signNext 104 rfl) (kg_M_signNext_in _ (List.mem_of_getElem? (i := 4) rfl)) <|
  sd_iconst (pc := 176) (kt_tab_get kx_M_signNext 105 rfl) kc_i_0 <|
  sd_iret (pc := 177) rfl (by decide) (kt_tab_get kx_M_signNext 106 rfl)
noncomputable def kd_M_signNext_162 : kt_D := ki_aload 0 <| ki_push (.int 5) <| ki_iload 1 <| ki_callV kt_shM 7 2 kf_M_pair <| (ki_drop 1 kd_M_signNext_168)
theorem kz_M_signNext_162 : kt_Snd l kt_shM kb_M_signNext 7 RX7 (some .int) 4 0 0 false false 162 kd_M_signNext_162 :=
  sd_aload_n (pc := 162) (kt_tab_get kx_M_signNext 97 rfl) rfl <|
  sd_iconst (pc := 163) (kt_tab_get kx_M_signNext 98 rfl) kc_i_5 <|
  sd_iload_n (pc := 164) (kt_tab_get kx_M_signNext 99 rfl) rfl <|
  sd_callV (pc := 165) km_M_pair (by decide) kv_M_pair (ci := 7) kt_hc7 (by decide) (kt_tab_get kx_M_signNext 100 rfl) (kg_M_signNext_in _ (List.mem_of_getElem? (i := 4) rfl)) <|
  (sd_drop (k := 1) kz_M_signNext_168)
noncomputable def kd_M_signNext_126 : kt_D := ki_callV kt_shM 7 1 kf_M_begin <| ki_aload 0 <| ki_push (.int 1) <| ki_iload 2 <| ki_callV kt_shM 7 2 kf_M_pair <| ki_aload 0 <| ki_push (.int 2) <| ki_iload 5 <| ki_callV kt_shM 7 2 kf_M_pair <| ki_aload 0 <| ki_push (.int 3) <| ki_aload 0 <| ki_get kt_shM 7 19 <| ki_callV kt_shM 7 2 kf_M_pair <| ki_aload 0 <| ki_push (.int 4) <| ki_iload 6 <| ki_callV kt_shM 7 2 kf_M_pair <| ki_iload 1 <| ki_if_le (ki_drop 6 (ki_drop 5 (ki_drop 2 (ki_drop 1 kd_M_signNext_168)))) (ki_drop 6 (ki_drop 5 (ki_drop 2 kd_M_signNext_162)))
theorem kz_M_signNext_126 : kt_Snd l kt_shM kb_M_signNext 7 RX7 (some .int) 4 0 0 false false 126 kd_M_signNext_126 :=
  sd_callV (pc := 126) km_M_begin (by decide) kv_M_begin (ci := 7) kt_hc7 (by decide) (kt_tab_get kx_M_signNext 77 rfl) (kg_M_signNext_in _ (List.mem_of_getElem? (i := 5) rfl)) <|
  sd_aload_n (pc := 129) (kt_tab_get kx_M_signNext 78 rfl) rfl <|
  sd_iconst (pc := 130) (kt_tab_get kx_M_signNext 79 rfl) kc_i_1 <|
  sd_iload_n (pc := 131) (kt_tab_get kx_M_signNext 80 rfl) rfl <|
  sd_callV (pc := 132) km_M_pair (by decide) kv_M_pair (ci := 7) kt_hc7 (by decide) (kt_tab_get kx_M_signNext 81 rfl) (kg_M_signNext_in _ (List.mem_of_getElem? (i := 4) rfl)) <|
  sd_aload_n (pc := 135) (kt_tab_get kx_M_signNext 82 rfl) rfl <|
  sd_iconst (pc := 136) (kt_tab_get kx_M_signNext 83 rfl) kc_i_2 <|
  sd_iload (pc := 137) (kt_tab_get kx_M_signNext 84 rfl) <|
  sd_callV (pc := 139) km_M_pair (by decide) kv_M_pair (ci := 7) kt_hc7 (by decide) (kt_tab_get kx_M_signNext 85 rfl) (kg_M_signNext_in _ (List.mem_of_getElem? (i := 4) rfl)) <|
  sd_aload_n (pc := 142) (kt_tab_get kx_M_signNext 86 rfl) rfl <|
  sd_iconst (pc := 143) (kt_tab_get kx_M_signNext 87 rfl) kc_i_3 <|
  sd_aload_n (pc := 144) (kt_tab_get kx_M_signNext 88 rfl) rfl <|
  sd_get (pc := 145) (k := 19) (ci := 7) kt_hc7 kt_hin7 (by decide) (kt_tab_get kx_M_signNext 89 rfl) (kg_M_signNext_in _ (List.mem_of_getElem? (i := 6) rfl)) <|
  sd_callV (pc := 148) km_M_pair (by decide) kv_M_pair (ci := 7) kt_hc7 (by decide) (kt_tab_get kx_M_signNext 90 rfl) (kg_M_signNext_in _ (List.mem_of_getElem? (i := 4) rfl)) <|
  sd_aload_n (pc := 151) (kt_tab_get kx_M_signNext 91 rfl) rfl <|
  sd_iconst (pc := 152) (kt_tab_get kx_M_signNext 92 rfl) kc_i_4 <|
  sd_iload (pc := 153) (kt_tab_get kx_M_signNext 93 rfl) <|
  sd_callV (pc := 155) km_M_pair (by decide) kv_M_pair (ci := 7) kt_hc7 (by decide) (kt_tab_get kx_M_signNext 94 rfl) (kg_M_signNext_in _ (List.mem_of_getElem? (i := 4) rfl)) <|
  sd_iload_n (pc := 158) (kt_tab_get kx_M_signNext 95 rfl) rfl <|
  sd_if_le (pc := 159) (tgt := 168) (kt_tab_get kx_M_signNext 96 rfl) rfl (sd_drop (k := 6) (sd_drop (k := 5) (sd_drop (k := 2) (sd_drop (k := 1) kz_M_signNext_168)))) (sd_drop (k := 6) (sd_drop (k := 5) (sd_drop (k := 2) kz_M_signNext_162)))
noncomputable def kd_M_signNext_125 : kt_D := ki_push (.int 5) <| kd_M_signNext_126
theorem kz_M_signNext_125 : kt_Snd l kt_shM kb_M_signNext 7 RX7 (some .int) 4 0 0 false false 125 kd_M_signNext_125 :=
  sd_iconst (pc := 125) (kt_tab_get kx_M_signNext 76 rfl) kc_i_5 <|
  kz_M_signNext_126
noncomputable def kd_M_signNext_120 : kt_D := ki_push (.int 6) <| kd_M_signNext_126
theorem kz_M_signNext_120 : kt_Snd l kt_shM kb_M_signNext 7 RX7 (some .int) 4 0 0 false false 120 kd_M_signNext_120 :=
  sd_bipush (pc := 120) (kt_tab_get kx_M_signNext 74 rfl) kc_b_6 <|
  sd_goto (pc := 122) (tgt := 126) (kt_tab_get kx_M_signNext 75 rfl) rfl kz_M_signNext_126
noncomputable def kd_M_signNext_97 : kt_D := ki_aload 0 <| ki_push (.int 2) <| ki_iload 5 <| ki_iload 3 <| ki_aload 0 <| ki_get kt_shM 7 15 <| ki_iload 6 <| ki_aload 0 <| ki_get kt_shM 7 16 <| ki_callV kt_shM 7 6 kf_M_sign <| ki_aload 0 <| ki_iload 1 <| ki_if_le (ki_drop 3 kd_M_signNext_125) (ki_drop 3 kd_M_signNext_120)
theorem kz_M_signNext_97 : kt_Snd l kt_shM kb_M_signNext 7 RX7 (some .int) 4 0 0 false false 97 kd_M_signNext_97 :=
  sd_aload_n (pc := 97) (kt_tab_get kx_M_signNext 61 rfl) rfl <|
  sd_iconst (pc := 98) (kt_tab_get kx_M_signNext 62 rfl) kc_i_2 <|
  sd_iload (pc := 99) (kt_tab_get kx_M_signNext 63 rfl) <|
  sd_iload_n (pc := 101) (kt_tab_get kx_M_signNext 64 rfl) rfl <|
  sd_aload_n (pc := 102) (kt_tab_get kx_M_signNext 65 rfl) rfl <|
  sd_get (pc := 103) (k := 15) (ci := 7) kt_hc7 kt_hin7 (by decide) (kt_tab_get kx_M_signNext 66 rfl) (kg_M_signNext_in _ (List.mem_of_getElem? (i := 7) rfl)) <|
  sd_iload (pc := 106) (kt_tab_get kx_M_signNext 67 rfl) <|
  sd_aload_n (pc := 108) (kt_tab_get kx_M_signNext 68 rfl) rfl <|
  sd_get (pc := 109) (k := 16) (ci := 7) kt_hc7 kt_hin7 (by decide) (kt_tab_get kx_M_signNext 69 rfl) (kg_M_signNext_in _ (List.mem_of_getElem? (i := 8) rfl)) <|
  sd_callV (pc := 112) km_M_sign (by decide) kv_M_sign (ci := 7) kt_hc7 (by decide) (kt_tab_get kx_M_signNext 70 rfl) (kg_M_signNext_in _ (List.mem_of_getElem? (i := 9) rfl)) <|
  sd_aload_n (pc := 115) (kt_tab_get kx_M_signNext 71 rfl) rfl <|
  sd_iload_n (pc := 116) (kt_tab_get kx_M_signNext 72 rfl) rfl <|
  sd_if_le (pc := 117) (tgt := 125) (kt_tab_get kx_M_signNext 73 rfl) rfl (sd_drop (k := 3) kz_M_signNext_125) (sd_drop (k := 3) kz_M_signNext_120)
noncomputable def kd_M_signNext_95 : kt_D := ki_push (.int (-1)) <| ki_iret
theorem kz_M_signNext_95 : kt_Snd l kt_shM kb_M_signNext 7 RX7 (some .int) 4 0 0 false false 95 kd_M_signNext_95 :=
  sd_iconst (pc := 95) (kt_tab_get kx_M_signNext 59 rfl) kc_i_m1 <|
  sd_iret (pc := 96) rfl (by decide) (kt_tab_get kx_M_signNext 60 rfl)
noncomputable def kd_M_signNext_37 : kt_D := ki_aload 0 <| ki_dup <| ki_get kt_shM 7 13 <| ki_push (.int 1) <| ki_isub <| ki_put kt_shM 7 13 0 <| ki_aload 0 <| ki_iload 2 <| ki_push (.int 1) <| ki_callV kt_shM 7 2 kf_M_data <| ki_istore 3 <| ki_aload 0 <| ki_iload 2 <| ki_push (.int 2) <| ki_callV kt_shM 7 2 kf_M_data <| ki_istore 4 <| ki_aload 0 <| ki_iload 2 <| ki_push (.int 3) <| ki_callV kt_shM 7 2 kf_M_data <| ki_istore 5 <| ki_aload 0 <| ki_iload 2 <| ki_push (.int 4) <| ki_callV kt_shM 7 2 kf_M_data <| ki_push (.int 1) <| ki_iadd <| ki_istore 6 <| ki_aload 0 <| ki_iload 2 <| ki_iload 3 <| ki_iload 4 <| ki_iload 5 <| ki_iload 6 <| ki_callV kt_shM 7 5 kf_M_put <| ki_if_ne kd_M_signNext_97 (ki_drop 6 (ki_drop 5 (ki_drop 4 (ki_drop 3 (ki_drop 2 (ki_drop 1 (ki_drop 0 kd_M_signNext_95)))))))
theorem kz_M_signNext_37 : kt_Snd l kt_shM kb_M_signNext 7 RX7 (some .int) 4 0 0 false false 37 kd_M_signNext_37 :=
  sd_aload_n (pc := 37) (kt_tab_get kx_M_signNext 23 rfl) rfl <|
  sd_dup (pc := 38) (kt_tab_get kx_M_signNext 24 rfl) <|
  sd_get (pc := 39) (k := 13) (ci := 7) kt_hc7 kt_hin7 (by decide) (kt_tab_get kx_M_signNext 25 rfl) (kg_M_signNext_in _ (List.mem_of_getElem? (i := 10) rfl)) <|
  sd_iconst (pc := 42) (kt_tab_get kx_M_signNext 26 rfl) kc_i_1 <|
  sd_isub (pc := 43) (kt_tab_get kx_M_signNext 27 rfl) <|
  sd_put (pc := 44) (k := 13) (ci := 7) kt_hc7 kt_hin7 tyX7_ok nmX7 (by decide) rfl rfl (Or.inl ⟨rfl, rfl⟩) (kt_tab_get kx_M_signNext 28 rfl) (kg_M_signNext_in _ (List.mem_of_getElem? (i := 10) rfl)) <|
  sd_aload_n (pc := 47) (kt_tab_get kx_M_signNext 29 rfl) rfl <|
  sd_iload_n (pc := 48) (kt_tab_get kx_M_signNext 30 rfl) rfl <|
  sd_iconst (pc := 49) (kt_tab_get kx_M_signNext 31 rfl) kc_i_1 <|
  sd_callV (pc := 50) km_M_data (by decide) kv_M_data (ci := 7) kt_hc7 (by decide) (kt_tab_get kx_M_signNext 32 rfl) (kg_M_signNext_in _ (List.mem_of_getElem? (i := 11) rfl)) <|
  sd_istore_n (pc := 53) (kt_tab_get kx_M_signNext 33 rfl) rfl (by decide) <|
  sd_aload_n (pc := 54) (kt_tab_get kx_M_signNext 34 rfl) rfl <|
  sd_iload_n (pc := 55) (kt_tab_get kx_M_signNext 35 rfl) rfl <|
  sd_iconst (pc := 56) (kt_tab_get kx_M_signNext 36 rfl) kc_i_2 <|
  sd_callV (pc := 57) km_M_data (by decide) kv_M_data (ci := 7) kt_hc7 (by decide) (kt_tab_get kx_M_signNext 37 rfl) (kg_M_signNext_in _ (List.mem_of_getElem? (i := 11) rfl)) <|
  sd_istore (pc := 60) (kt_tab_get kx_M_signNext 38 rfl) (by decide) <|
  sd_aload_n (pc := 62) (kt_tab_get kx_M_signNext 39 rfl) rfl <|
  sd_iload_n (pc := 63) (kt_tab_get kx_M_signNext 40 rfl) rfl <|
  sd_iconst (pc := 64) (kt_tab_get kx_M_signNext 41 rfl) kc_i_3 <|
  sd_callV (pc := 65) km_M_data (by decide) kv_M_data (ci := 7) kt_hc7 (by decide) (kt_tab_get kx_M_signNext 42 rfl) (kg_M_signNext_in _ (List.mem_of_getElem? (i := 11) rfl)) <|
  sd_istore (pc := 68) (kt_tab_get kx_M_signNext 43 rfl) (by decide) <|
  sd_aload_n (pc := 70) (kt_tab_get kx_M_signNext 44 rfl) rfl <|
  sd_iload_n (pc := 71) (kt_tab_get kx_M_signNext 45 rfl) rfl <|
  sd_iconst (pc := 72) (kt_tab_get kx_M_signNext 46 rfl) kc_i_4 <|
  sd_callV (pc := 73) km_M_data (by decide) kv_M_data (ci := 7) kt_hc7 (by decide) (kt_tab_get kx_M_signNext 47 rfl) (kg_M_signNext_in _ (List.mem_of_getElem? (i := 11) rfl)) <|
  sd_iconst (pc := 76) (kt_tab_get kx_M_signNext 48 rfl) kc_i_1 <|
  sd_iadd (pc := 77) (kt_tab_get kx_M_signNext 49 rfl) <|
  sd_istore (pc := 78) (kt_tab_get kx_M_signNext 50 rfl) (by decide) <|
  sd_aload_n (pc := 80) (kt_tab_get kx_M_signNext 51 rfl) rfl <|
  sd_iload_n (pc := 81) (kt_tab_get kx_M_signNext 52 rfl) rfl <|
  sd_iload_n (pc := 82) (kt_tab_get kx_M_signNext 53 rfl) rfl <|
  sd_iload (pc := 83) (kt_tab_get kx_M_signNext 54 rfl) <|
  sd_iload (pc := 85) (kt_tab_get kx_M_signNext 55 rfl) <|
  sd_iload (pc := 87) (kt_tab_get kx_M_signNext 56 rfl) <|
  sd_callV (pc := 89) km_M_put (by decide) kv_M_put (ci := 7) kt_hc7 (by decide) (kt_tab_get kx_M_signNext 57 rfl) (kg_M_signNext_in _ (List.mem_of_getElem? (i := 12) rfl)) <|
  sd_if_ne (pc := 92) (tgt := 97) (kt_tab_get kx_M_signNext 58 rfl) rfl kz_M_signNext_97 (sd_drop (k := 6) (sd_drop (k := 5) (sd_drop (k := 4) (sd_drop (k := 3) (sd_drop (k := 2) (sd_drop (k := 1) (sd_drop (k := 0) kz_M_signNext_95)))))))
noncomputable def kd_M_signNext_17 (kh_9 : kt_D) : kt_D := ki_aload 0 <| ki_get kt_shM 7 14 <| ki_iload 3 <| ki_push (.int 1) <| ki_isub <| ki_aload 0 <| ki_get kt_shM 7 14 <| ki_iload 3 <| ki_iald kt_shM <| ki_iast kt_shM <| ki_iinc 3 1 <| kh_9
theorem kz_M_signNext_17 {kh_9 : kt_D} (zh_9 : kt_Snd l kt_shM kb_M_signNext 7 RX7 (some .int) 4 0 0 false false 9 kh_9) : kt_Snd l kt_shM kb_M_signNext 7 RX7 (some .int) 4 0 0 false false 17 (kd_M_signNext_17 kh_9) :=
  sd_aload_n (pc := 17) (kt_tab_get kx_M_signNext 11 rfl) rfl <|
  sd_get (pc := 18) (k := 14) (ci := 7) kt_hc7 kt_hin7 (by decide) (kt_tab_get kx_M_signNext 12 rfl) (kg_M_signNext_in _ (List.mem_of_getElem? (i := 13) rfl)) <|
  sd_iload_n (pc := 21) (kt_tab_get kx_M_signNext 13 rfl) rfl <|
  sd_iconst (pc := 22) (kt_tab_get kx_M_signNext 14 rfl) kc_i_1 <|
  sd_isub (pc := 23) (kt_tab_get kx_M_signNext 15 rfl) <|
  sd_aload_n (pc := 24) (kt_tab_get kx_M_signNext 16 rfl) rfl <|
  sd_get (pc := 25) (k := 14) (ci := 7) kt_hc7 kt_hin7 (by decide) (kt_tab_get kx_M_signNext 17 rfl) (kg_M_signNext_in _ (List.mem_of_getElem? (i := 13) rfl)) <|
  sd_iload_n (pc := 28) (kt_tab_get kx_M_signNext 18 rfl) rfl <|
  sd_iald (pc := 29) (kt_tab_get kx_M_signNext 19 rfl) <|
  sd_iast (pc := 30) (kt_tab_get kx_M_signNext 20 rfl) <|
  sd_iinc (pc := 31) (kt_tab_get kx_M_signNext 21 rfl) kc_i_1 (by decide) <|
  sd_goto (pc := 34) (tgt := 9) (kt_tab_get kx_M_signNext 22 rfl) rfl zh_9
noncomputable def kd_M_signNext_9b (kh_9 : kt_D) : kt_D := ki_iload 3 <| ki_aload 0 <| ki_get kt_shM 7 13 <| ki_icmp_ge (ki_drop 3 kd_M_signNext_37) (kd_M_signNext_17 kh_9)
theorem kz_M_signNext_9b {kh_9 : kt_D} (zh_9 : kt_Snd l kt_shM kb_M_signNext 7 RX7 (some .int) 4 0 0 false false 9 kh_9) : kt_Snd l kt_shM kb_M_signNext 7 RX7 (some .int) 4 0 0 false false 9 (kd_M_signNext_9b kh_9) :=
  sd_iload_n (pc := 9) (kt_tab_get kx_M_signNext 7 rfl) rfl <|
  sd_aload_n (pc := 10) (kt_tab_get kx_M_signNext 8 rfl) rfl <|
  sd_get (pc := 11) (k := 13) (ci := 7) kt_hc7 kt_hin7 (by decide) (kt_tab_get kx_M_signNext 9 rfl) (kg_M_signNext_in _ (List.mem_of_getElem? (i := 10) rfl)) <|
  sd_icmp_ge (pc := 14) (tgt := 37) (kt_tab_get kx_M_signNext 10 rfl) rfl (sd_drop (k := 3) kz_M_signNext_37) (kz_M_signNext_17 zh_9)
noncomputable def kd_M_signNext_9 (n : Nat) : kt_D := Nat.rec (fun _ _ _ => none) (fun _ ih => kd_M_signNext_9b ih) n
theorem kz_M_signNext_9 (n : Nat) : kt_Snd l kt_shM kb_M_signNext 7 RX7 (some .int) 4 0 0 false false 9 (kd_M_signNext_9 n) := by
  induction n with
  | zero => exact sd_fail
  | succ n ih => exact kz_M_signNext_9b ih
noncomputable def kd_M_signNext_0 : kt_D := ki_aload 0 <| ki_get kt_shM 7 14 <| ki_push (.int 0) <| ki_iald kt_shM <| ki_istore 2 <| ki_push (.int 1) <| ki_istore 3 <| (kd_M_signNext_9 100)
theorem kz_M_signNext_0 : kt_Snd l kt_shM kb_M_signNext 7 RX7 (some .int) 4 0 0 false false 0 kd_M_signNext_0 :=
  sd_aload_n (pc := 0) (kt_tab_get kx_M_signNext 0 rfl) rfl <|
  sd_get (pc := 1) (k := 14) (ci := 7) kt_hc7 kt_hin7 (by decide) (kt_tab_get kx_M_signNext 1 rfl) (kg_M_signNext_in _ (List.mem_of_getElem? (i := 13) rfl)) <|
  sd_iconst (pc := 4) (kt_tab_get kx_M_signNext 2 rfl) kc_i_0 <|
  sd_iald (pc := 5) (kt_tab_get kx_M_signNext 3 rfl) <|
  sd_istore_n (pc := 6) (kt_tab_get kx_M_signNext 4 rfl) rfl (by decide) <|
  sd_iconst (pc := 7) (kt_tab_get kx_M_signNext 5 rfl) kc_i_1 <|
  sd_istore_n (pc := 8) (kt_tab_get kx_M_signNext 6 rfl) rfl (by decide) <|
  (kz_M_signNext_9 100)
noncomputable def kf_M_signNext : kt_F := kt_run 7 kd_M_signNext_0
theorem km_M_signNext : kt_M l kt_shM ky_M_signNext kb_M_signNext 7 (some .int) 4 false kf_M_signNext := kt_method (by decide) rfl kz_M_signNext_0
noncomputable def kd_M_ask_37 : kt_D := ki_push (.int 3) <| ki_iret
theorem kz_M_ask_37 : kt_Snd l kt_shM kb_M_ask 5 RX7 (some .int) 5 0 0 false false 37 kd_M_ask_37 :=
  sd_iconst (pc := 37) (kt_tab_get kx_M_ask 20 rfl) kc_i_3 <|
  sd_iret (pc := 38) rfl (by decide) (kt_tab_get kx_M_ask 21 rfl)
noncomputable def kd_M_ask_55 : kt_D := ki_push (.int 4) <| ki_iret
theorem kz_M_ask_55 : kt_Snd l kt_shM kb_M_ask 5 RX7 (some .int) 5 0 0 false false 55 kd_M_ask_55 :=
  sd_iconst (pc := 55) (kt_tab_get kx_M_ask 30 rfl) kc_i_4 <|
  sd_iret (pc := 56) rfl (by decide) (kt_tab_get kx_M_ask 31 rfl)
noncomputable def kd_M_ask_76 : kt_D := ki_push (.int 5) <| ki_iret
theorem kz_M_ask_76 : kt_Snd l kt_shM kb_M_ask 5 RX7 (some .int) 5 0 0 false false 76 kd_M_ask_76 :=
  sd_iconst (pc := 76) (kt_tab_get kx_M_ask 42 rfl) kc_i_5 <|
  sd_iret (pc := 77) rfl (by decide) (kt_tab_get kx_M_ask 43 rfl)
noncomputable def kd_M_ask_277 : kt_D := ki_put kt_shM 7 16 0 <| ki_aload 0 <| ki_iload 2 <| ki_callV kt_shM 7 1 kf_M_signNext <| ki_iret
theorem kz_M_ask_277 : kt_Snd l kt_shM kb_M_ask 5 RX7 (some .int) 5 0 0 false false 277 kd_M_ask_277 :=
  sd_put (pc := 277) (k := 16) (ci := 7) kt_hc7 kt_hin7 tyX7_ok nmX7 (by decide) rfl rfl (Or.inl ⟨rfl, rfl⟩) (kt_tab_get kx_M_ask 152 rfl) (kg_M_ask_in _ (List.mem_of_getElem? (i := 4) rfl)) <|
  sd_aload_n (pc := 280) (kt_tab_get kx_M_ask 153 rfl) rfl <|
  sd_iload_n (pc := 281) (kt_tab_get kx_M_ask 154 rfl) rfl <|
  sd_callV (pc := 282) km_M_signNext (by decide) kv_M_signNext (ci := 7) kt_hc7 (by decide) (kt_tab_get kx_M_ask 155 rfl) (kg_M_ask_in _ (List.mem_of_getElem? (i := 5) rfl)) <|
  sd_iret (pc := 285) rfl (by decide) (kt_tab_get kx_M_ask 156 rfl)
noncomputable def kd_M_ask_276 : kt_D := ki_push (.int 0) <| kd_M_ask_277
theorem kz_M_ask_276 : kt_Snd l kt_shM kb_M_ask 5 RX7 (some .int) 5 0 0 false false 276 kd_M_ask_276 :=
  sd_iconst (pc := 276) (kt_tab_get kx_M_ask 151 rfl) kc_i_0 <|
  kz_M_ask_277
noncomputable def kd_M_ask_272 : kt_D := ki_push (.int 1) <| kd_M_ask_277
theorem kz_M_ask_272 : kt_Snd l kt_shM kb_M_ask 5 RX7 (some .int) 5 0 0 false false 272 kd_M_ask_272 :=
  sd_iconst (pc := 272) (kt_tab_get kx_M_ask 149 rfl) kc_i_1 <|
  sd_goto (pc := 273) (tgt := 277) (kt_tab_get kx_M_ask 150 rfl) rfl kz_M_ask_277
noncomputable def kd_M_ask_243 : kt_D := ki_aload 0 <| ki_push (.int 0) <| ki_put kt_shM 7 6 1 <| ki_aload 0 <| ki_iload 2 <| ki_put kt_shM 7 13 0 <| ki_aload 0 <| ki_aload 0 <| ki_push (.int 2) <| ki_callV kt_shM 7 1 kf_M_get <| ki_put kt_shM 7 15 0 <| ki_aload 0 <| ki_aload 0 <| ki_push (.int 6) <| ki_callV kt_shM 7 1 kf_M_there <| ki_if_eq kd_M_ask_276 kd_M_ask_272
theorem kz_M_ask_243 : kt_Snd l kt_shM kb_M_ask 5 RX7 (some .int) 5 0 0 false false 243 kd_M_ask_243 :=
  sd_aload_n (pc := 243) (kt_tab_get kx_M_ask 133 rfl) rfl <|
  sd_iconst (pc := 244) (kt_tab_get kx_M_ask 134 rfl) kc_i_0 <|
  sd_put (pc := 245) (k := 6) (ci := 7) kt_hc7 kt_hin7 tyX7_ok nmX7 (by decide) rfl rfl (Or.inr ⟨rfl, rfl⟩) (kt_tab_get kx_M_ask 135 rfl) (kg_M_ask_in _ (List.mem_of_getElem? (i := 6) rfl)) <|
  sd_aload_n (pc := 248) (kt_tab_get kx_M_ask 136 rfl) rfl <|
  sd_iload_n (pc := 249) (kt_tab_get kx_M_ask 137 rfl) rfl <|
  sd_put (pc := 250) (k := 13) (ci := 7) kt_hc7 kt_hin7 tyX7_ok nmX7 (by decide) rfl rfl (Or.inl ⟨rfl, rfl⟩) (kt_tab_get kx_M_ask 138 rfl) (kg_M_ask_in _ (List.mem_of_getElem? (i := 7) rfl)) <|
  sd_aload_n (pc := 253) (kt_tab_get kx_M_ask 139 rfl) rfl <|
  sd_aload_n (pc := 254) (kt_tab_get kx_M_ask 140 rfl) rfl <|
  sd_iconst (pc := 255) (kt_tab_get kx_M_ask 141 rfl) kc_i_2 <|
  sd_callV (pc := 256) km_M_get (by decide) kv_M_get (ci := 7) kt_hc7 (by decide) (kt_tab_get kx_M_ask 142 rfl) (kg_M_ask_in _ (List.mem_of_getElem? (i := 8) rfl)) <|
  sd_put (pc := 259) (k := 15) (ci := 7) kt_hc7 kt_hin7 tyX7_ok nmX7 (by decide) rfl rfl (Or.inl ⟨rfl, rfl⟩) (kt_tab_get kx_M_ask 143 rfl) (kg_M_ask_in _ (List.mem_of_getElem? (i := 9) rfl)) <|
  sd_aload_n (pc := 262) (kt_tab_get kx_M_ask 144 rfl) rfl <|
  sd_aload_n (pc := 263) (kt_tab_get kx_M_ask 145 rfl) rfl <|
  sd_bipush (pc := 264) (kt_tab_get kx_M_ask 146 rfl) kc_b_6 <|
  sd_callV (pc := 266) km_M_there (by decide) kv_M_there (ci := 7) kt_hc7 (by decide) (kt_tab_get kx_M_ask 147 rfl) (kg_M_ask_in _ (List.mem_of_getElem? (i := 10) rfl)) <|
  sd_if_eq (pc := 269) (tgt := 276) (kt_tab_get kx_M_ask 148 rfl) rfl kz_M_ask_276 kz_M_ask_272
noncomputable def kd_M_ask_240 : kt_D := ki_push (.int 7) <| ki_iret
theorem kz_M_ask_240 : kt_Snd l kt_shM kb_M_ask 5 RX7 (some .int) 5 0 0 false false 240 kd_M_ask_240 :=
  sd_bipush (pc := 240) (kt_tab_get kx_M_ask 131 rfl) kc_b_7 <|
  sd_iret (pc := 242) rfl (by decide) (kt_tab_get kx_M_ask 132 rfl)
noncomputable def kd_M_ask_233 : kt_D := ki_aload 0 <| ki_get kt_shM 7 6 <| ki_if_ne kd_M_ask_243 (ki_drop 2 (ki_drop 0 kd_M_ask_240))
theorem kz_M_ask_233 : kt_Snd l kt_shM kb_M_ask 5 RX7 (some .int) 5 0 0 false false 233 kd_M_ask_233 :=
  sd_aload_n (pc := 233) (kt_tab_get kx_M_ask 128 rfl) rfl <|
  sd_get (pc := 234) (k := 6) (ci := 7) kt_hc7 kt_hin7 (by decide) (kt_tab_get kx_M_ask 129 rfl) (kg_M_ask_in _ (List.mem_of_getElem? (i := 6) rfl)) <|
  sd_if_ne (pc := 237) (tgt := 243) (kt_tab_get kx_M_ask 130 rfl) rfl kz_M_ask_243 (sd_drop (k := 2) (sd_drop (k := 0) kz_M_ask_240))
noncomputable def kd_M_ask_230 : kt_D := ki_push (.int 9) <| ki_iret
theorem kz_M_ask_230 : kt_Snd l kt_shM kb_M_ask 5 RX7 (some .int) 5 0 0 false false 230 kd_M_ask_230 :=
  sd_bipush (pc := 230) (kt_tab_get kx_M_ask 126 rfl) kc_b_9 <|
  sd_iret (pc := 232) rfl (by decide) (kt_tab_get kx_M_ask 127 rfl)
noncomputable def kd_M_ask_226 : kt_D := ki_iload 2 <| ki_if_ne kd_M_ask_233 (ki_drop 2 (ki_drop 0 kd_M_ask_230))
theorem kz_M_ask_226 : kt_Snd l kt_shM kb_M_ask 5 RX7 (some .int) 5 0 0 false false 226 kd_M_ask_226 :=
  sd_iload_n (pc := 226) (kt_tab_get kx_M_ask 124 rfl) rfl <|
  sd_if_ne (pc := 227) (tgt := 233) (kt_tab_get kx_M_ask 125 rfl) rfl kz_M_ask_233 (sd_drop (k := 2) (sd_drop (k := 0) kz_M_ask_230))
noncomputable def kd_M_ask_220 (kh_109 : kt_D) : kt_D := ki_iinc 3 1 <| kh_109
theorem kz_M_ask_220 {kh_109 : kt_D} (zh_109 : kt_Snd l kt_shM kb_M_ask 5 RX7 (some .int) 5 0 0 false false 109 kh_109) : kt_Snd l kt_shM kb_M_ask 5 RX7 (some .int) 5 0 0 false false 220 (kd_M_ask_220 kh_109) :=
  sd_iinc (pc := 220) (kt_tab_get kx_M_ask 122 rfl) kc_i_1 (by decide) <|
  sd_goto (pc := 223) (tgt := 109) (kt_tab_get kx_M_ask 123 rfl) rfl zh_109
noncomputable def kd_M_ask_209 (kh_109 : kt_D) : kt_D := ki_aload 0 <| ki_get kt_shM 7 14 <| ki_iload 4 <| ki_iload 3 <| ki_iast kt_shM <| ki_iinc 2 1 <| (ki_drop 4 (kd_M_ask_220 kh_109))
theorem kz_M_ask_209 {kh_109 : kt_D} (zh_109 : kt_Snd l kt_shM kb_M_ask 5 RX7 (some .int) 5 0 0 false false 109 kh_109) : kt_Snd l kt_shM kb_M_ask 5 RX7 (some .int) 5 0 0 false false 209 (kd_M_ask_209 kh_109) :=
  sd_aload_n (pc := 209) (kt_tab_get kx_M_ask 116 rfl) rfl <|
  sd_get (pc := 210) (k := 14) (ci := 7) kt_hc7 kt_hin7 (by decide) (kt_tab_get kx_M_ask 117 rfl) (kg_M_ask_in _ (List.mem_of_getElem? (i := 11) rfl)) <|
  sd_iload (pc := 213) (kt_tab_get kx_M_ask 118 rfl) <|
  sd_iload_n (pc := 215) (kt_tab_get kx_M_ask 119 rfl) rfl <|
  sd_iast (pc := 216) (kt_tab_get kx_M_ask 120 rfl) <|
  sd_iinc (pc := 217) (kt_tab_get kx_M_ask 121 rfl) kc_i_1 (by decide) <|
  (sd_drop (k := 4) (kz_M_ask_220 zh_109))
noncomputable def kd_M_ask_187 (kh_109 : kt_D) (kh_153 : kt_D) : kt_D := ki_aload 0 <| ki_get kt_shM 7 14 <| ki_iload 4 <| ki_aload 0 <| ki_get kt_shM 7 14 <| ki_iload 4 <| ki_push (.int 1) <| ki_isub <| ki_iald kt_shM <| ki_iast kt_shM <| ki_iinc 4 (-1) <| kh_153
theorem kz_M_ask_187 {kh_109 : kt_D} (zh_109 : kt_Snd l kt_shM kb_M_ask 5 RX7 (some .int) 5 0 0 false false 109 kh_109) {kh_153 : kt_D} (zh_153 : kt_Snd l kt_shM kb_M_ask 5 RX7 (some .int) 5 0 0 false false 153 kh_153) : kt_Snd l kt_shM kb_M_ask 5 RX7 (some .int) 5 0 0 false false 187 (kd_M_ask_187 kh_109 kh_153) :=
  sd_aload_n (pc := 187) (kt_tab_get kx_M_ask 104 rfl) rfl <|
  sd_get (pc := 188) (k := 14) (ci := 7) kt_hc7 kt_hin7 (by decide) (kt_tab_get kx_M_ask 105 rfl) (kg_M_ask_in _ (List.mem_of_getElem? (i := 11) rfl)) <|
  sd_iload (pc := 191) (kt_tab_get kx_M_ask 106 rfl) <|
  sd_aload_n (pc := 193) (kt_tab_get kx_M_ask 107 rfl) rfl <|
  sd_get (pc := 194) (k := 14) (ci := 7) kt_hc7 kt_hin7 (by decide) (kt_tab_get kx_M_ask 108 rfl) (kg_M_ask_in _ (List.mem_of_getElem? (i := 11) rfl)) <|
  sd_iload (pc := 197) (kt_tab_get kx_M_ask 109 rfl) <|
  sd_iconst (pc := 199) (kt_tab_get kx_M_ask 110 rfl) kc_i_1 <|
  sd_isub (pc := 200) (kt_tab_get kx_M_ask 111 rfl) <|
  sd_iald (pc := 201) (kt_tab_get kx_M_ask 112 rfl) <|
  sd_iast (pc := 202) (kt_tab_get kx_M_ask 113 rfl) <|
  sd_iinc (pc := 203) (kt_tab_get kx_M_ask 114 rfl) kc_i_m1 (by decide) <|
  sd_goto (pc := 206) (tgt := 153) (kt_tab_get kx_M_ask 115 rfl) rfl zh_153
noncomputable def kd_M_ask_158 (kh_109 : kt_D) (kh_153 : kt_D) : kt_D := ki_aload 0 <| ki_aload 0 <| ki_aload 0 <| ki_get kt_shM 7 14 <| ki_iload 4 <| ki_push (.int 1) <| ki_isub <| ki_iald kt_shM <| ki_callV kt_shM 7 1 kf_M_page <| ki_callV kt_shM 7 1 kf_M_serialOf <| ki_aload 0 <| ki_aload 0 <| ki_iload 3 <| ki_callV kt_shM 7 1 kf_M_page <| ki_callV kt_shM 7 1 kf_M_serialOf <| ki_icmp_ge (kd_M_ask_209 kh_109) (kd_M_ask_187 kh_109 kh_153)
theorem kz_M_ask_158 {kh_109 : kt_D} (zh_109 : kt_Snd l kt_shM kb_M_ask 5 RX7 (some .int) 5 0 0 false false 109 kh_109) {kh_153 : kt_D} (zh_153 : kt_Snd l kt_shM kb_M_ask 5 RX7 (some .int) 5 0 0 false false 153 kh_153) : kt_Snd l kt_shM kb_M_ask 5 RX7 (some .int) 5 0 0 false false 158 (kd_M_ask_158 kh_109 kh_153) :=
  sd_aload_n (pc := 158) (kt_tab_get kx_M_ask 88 rfl) rfl <|
  sd_aload_n (pc := 159) (kt_tab_get kx_M_ask 89 rfl) rfl <|
  sd_aload_n (pc := 160) (kt_tab_get kx_M_ask 90 rfl) rfl <|
  sd_get (pc := 161) (k := 14) (ci := 7) kt_hc7 kt_hin7 (by decide) (kt_tab_get kx_M_ask 91 rfl) (kg_M_ask_in _ (List.mem_of_getElem? (i := 11) rfl)) <|
  sd_iload (pc := 164) (kt_tab_get kx_M_ask 92 rfl) <|
  sd_iconst (pc := 166) (kt_tab_get kx_M_ask 93 rfl) kc_i_1 <|
  sd_isub (pc := 167) (kt_tab_get kx_M_ask 94 rfl) <|
  sd_iald (pc := 168) (kt_tab_get kx_M_ask 95 rfl) <|
  sd_callV (pc := 169) km_M_page (by decide) kv_M_page (ci := 7) kt_hc7 (by decide) (kt_tab_get kx_M_ask 96 rfl) (kg_M_ask_in _ (List.mem_of_getElem? (i := 12) rfl)) <|
  sd_callV (pc := 172) km_M_serialOf (by decide) kv_M_serialOf (ci := 7) kt_hc7 (by decide) (kt_tab_get kx_M_ask 97 rfl) (kg_M_ask_in _ (List.mem_of_getElem? (i := 13) rfl)) <|
  sd_aload_n (pc := 175) (kt_tab_get kx_M_ask 98 rfl) rfl <|
  sd_aload_n (pc := 176) (kt_tab_get kx_M_ask 99 rfl) rfl <|
  sd_iload_n (pc := 177) (kt_tab_get kx_M_ask 100 rfl) rfl <|
  sd_callV (pc := 178) km_M_page (by decide) kv_M_page (ci := 7) kt_hc7 (by decide) (kt_tab_get kx_M_ask 101 rfl) (kg_M_ask_in _ (List.mem_of_getElem? (i := 12) rfl)) <|
  sd_callV (pc := 181) km_M_serialOf (by decide) kv_M_serialOf (ci := 7) kt_hc7 (by decide) (kt_tab_get kx_M_ask 102 rfl) (kg_M_ask_in _ (List.mem_of_getElem? (i := 13) rfl)) <|
  sd_icmp_ge (pc := 184) (tgt := 209) (kt_tab_get kx_M_ask 103 rfl) rfl (kz_M_ask_209 zh_109) (kz_M_ask_187 zh_109 zh_153)
noncomputable def kd_M_ask_153b (kh_109 : kt_D) (kh_153 : kt_D) : kt_D := ki_iload 4 <| ki_if_le (kd_M_ask_209 kh_109) (kd_M_ask_158 kh_109 kh_153)
theorem kz_M_ask_153b {kh_109 : kt_D} (zh_109 : kt_Snd l kt_shM kb_M_ask 5 RX7 (some .int) 5 0 0 false false 109 kh_109) {kh_153 : kt_D} (zh_153 : kt_Snd l kt_shM kb_M_ask 5 RX7 (some .int) 5 0 0 false false 153 kh_153) : kt_Snd l kt_shM kb_M_ask 5 RX7 (some .int) 5 0 0 false false 153 (kd_M_ask_153b kh_109 kh_153) :=
  sd_iload (pc := 153) (kt_tab_get kx_M_ask 86 rfl) <|
  sd_if_le (pc := 155) (tgt := 209) (kt_tab_get kx_M_ask 87 rfl) rfl (kz_M_ask_209 zh_109) (kz_M_ask_158 zh_109 zh_153)
noncomputable def kd_M_ask_153 (kh_109 : kt_D) (n : Nat) : kt_D := Nat.rec (fun _ _ _ => none) (fun _ ih => kd_M_ask_153b kh_109 ih) n
theorem kz_M_ask_153 {kh_109 : kt_D} (zh_109 : kt_Snd l kt_shM kb_M_ask 5 RX7 (some .int) 5 0 0 false false 109 kh_109) (n : Nat) : kt_Snd l kt_shM kb_M_ask 5 RX7 (some .int) 5 0 0 false false 153 (kd_M_ask_153 kh_109 n) := by
  induction n with
  | zero => exact sd_fail
  | succ n ih => exact kz_M_ask_153b zh_109 ih
noncomputable def kd_M_ask_150 (kh_109 : kt_D) : kt_D := ki_iload 2 <| ki_istore 4 <| (kd_M_ask_153 kh_109 100)
theorem kz_M_ask_150 {kh_109 : kt_D} (zh_109 : kt_Snd l kt_shM kb_M_ask 5 RX7 (some .int) 5 0 0 false false 109 kh_109) : kt_Snd l kt_shM kb_M_ask 5 RX7 (some .int) 5 0 0 false false 150 (kd_M_ask_150 kh_109) :=
  sd_iload_n (pc := 150) (kt_tab_get kx_M_ask 84 rfl) rfl <|
  sd_istore (pc := 151) (kt_tab_get kx_M_ask 85 rfl) (by decide) <|
  (kz_M_ask_153 zh_109 100)
noncomputable def kd_M_ask_141 (kh_109 : kt_D) : kt_D := ki_aload 0 <| ki_push (.int 3) <| ki_iload 3 <| ki_callV kt_shM 7 2 kf_M_listed <| ki_if_eq (kd_M_ask_220 kh_109) (kd_M_ask_150 kh_109)
theorem kz_M_ask_141 {kh_109 : kt_D} (zh_109 : kt_Snd l kt_shM kb_M_ask 5 RX7 (some .int) 5 0 0 false false 109 kh_109) : kt_Snd l kt_shM kb_M_ask 5 RX7 (some .int) 5 0 0 false false 141 (kd_M_ask_141 kh_109) :=
  sd_aload_n (pc := 141) (kt_tab_get kx_M_ask 79 rfl) rfl <|
  sd_iconst (pc := 142) (kt_tab_get kx_M_ask 80 rfl) kc_i_3 <|
  sd_iload_n (pc := 143) (kt_tab_get kx_M_ask 81 rfl) rfl <|
  sd_callV (pc := 144) km_M_listed (by decide) kv_M_listed (ci := 7) kt_hc7 (by decide) (kt_tab_get kx_M_ask 82 rfl) (kg_M_ask_in _ (List.mem_of_getElem? (i := 14) rfl)) <|
  sd_if_eq (pc := 147) (tgt := 220) (kt_tab_get kx_M_ask 83 rfl) rfl (kz_M_ask_220 zh_109) (kz_M_ask_150 zh_109)
noncomputable def kd_M_ask_133 (kh_109 : kt_D) : kt_D := ki_aload 0 <| ki_push (.int 3) <| ki_callV kt_shM 7 1 kf_M_there <| ki_if_eq (kd_M_ask_150 kh_109) (kd_M_ask_141 kh_109)
theorem kz_M_ask_133 {kh_109 : kt_D} (zh_109 : kt_Snd l kt_shM kb_M_ask 5 RX7 (some .int) 5 0 0 false false 109 kh_109) : kt_Snd l kt_shM kb_M_ask 5 RX7 (some .int) 5 0 0 false false 133 (kd_M_ask_133 kh_109) :=
  sd_aload_n (pc := 133) (kt_tab_get kx_M_ask 75 rfl) rfl <|
  sd_iconst (pc := 134) (kt_tab_get kx_M_ask 76 rfl) kc_i_3 <|
  sd_callV (pc := 135) km_M_there (by decide) kv_M_there (ci := 7) kt_hc7 (by decide) (kt_tab_get kx_M_ask 77 rfl) (kg_M_ask_in _ (List.mem_of_getElem? (i := 10) rfl)) <|
  sd_if_eq (pc := 138) (tgt := 150) (kt_tab_get kx_M_ask 78 rfl) rfl (kz_M_ask_150 zh_109) (kz_M_ask_141 zh_109)
noncomputable def kd_M_ask_123 (kh_109 : kt_D) : kt_D := ki_aload 0 <| ki_iload 3 <| ki_push (.int 1) <| ki_callV kt_shM 7 2 kf_M_data <| ki_iload 1 <| ki_icmp_ne (kd_M_ask_220 kh_109) (kd_M_ask_133 kh_109)
theorem kz_M_ask_123 {kh_109 : kt_D} (zh_109 : kt_Snd l kt_shM kb_M_ask 5 RX7 (some .int) 5 0 0 false false 109 kh_109) : kt_Snd l kt_shM kb_M_ask 5 RX7 (some .int) 5 0 0 false false 123 (kd_M_ask_123 kh_109) :=
  sd_aload_n (pc := 123) (kt_tab_get kx_M_ask 69 rfl) rfl <|
  sd_iload_n (pc := 124) (kt_tab_get kx_M_ask 70 rfl) rfl <|
  sd_iconst (pc := 125) (kt_tab_get kx_M_ask 71 rfl) kc_i_1 <|
  sd_callV (pc := 126) km_M_data (by decide) kv_M_data (ci := 7) kt_hc7 (by decide) (kt_tab_get kx_M_ask 72 rfl) (kg_M_ask_in _ (List.mem_of_getElem? (i := 15) rfl)) <|
  sd_iload_n (pc := 129) (kt_tab_get kx_M_ask 73 rfl) rfl <|
  sd_icmp_ne (pc := 130) (tgt := 220) (kt_tab_get kx_M_ask 74 rfl) rfl (kz_M_ask_220 zh_109) (kz_M_ask_133 zh_109)
noncomputable def kd_M_ask_115 (kh_109 : kt_D) : kt_D := ki_aload 0 <| ki_iload 3 <| ki_callV kt_shM 7 1 kf_M_page <| ki_if_lt (kd_M_ask_220 kh_109) (kd_M_ask_123 kh_109)
theorem kz_M_ask_115 {kh_109 : kt_D} (zh_109 : kt_Snd l kt_shM kb_M_ask 5 RX7 (some .int) 5 0 0 false false 109 kh_109) : kt_Snd l kt_shM kb_M_ask 5 RX7 (some .int) 5 0 0 false false 115 (kd_M_ask_115 kh_109) :=
  sd_aload_n (pc := 115) (kt_tab_get kx_M_ask 65 rfl) rfl <|
  sd_iload_n (pc := 116) (kt_tab_get kx_M_ask 66 rfl) rfl <|
  sd_callV (pc := 117) km_M_page (by decide) kv_M_page (ci := 7) kt_hc7 (by decide) (kt_tab_get kx_M_ask 67 rfl) (kg_M_ask_in _ (List.mem_of_getElem? (i := 12) rfl)) <|
  sd_if_lt (pc := 120) (tgt := 220) (kt_tab_get kx_M_ask 68 rfl) rfl (kz_M_ask_220 zh_109) (kz_M_ask_123 zh_109)
noncomputable def kd_M_ask_109b (kh_109 : kt_D) : kt_D := ki_iload 3 <| ki_push (.int 7) <| ki_icmp_ge (ki_drop 3 (ki_drop 1 kd_M_ask_226)) (kd_M_ask_115 kh_109)
theorem kz_M_ask_109b {kh_109 : kt_D} (zh_109 : kt_Snd l kt_shM kb_M_ask 5 RX7 (some .int) 5 0 0 false false 109 kh_109) : kt_Snd l kt_shM kb_M_ask 5 RX7 (some .int) 5 0 0 false false 109 (kd_M_ask_109b kh_109) :=
  sd_iload_n (pc := 109) (kt_tab_get kx_M_ask 62 rfl) rfl <|
  sd_bipush (pc := 110) (kt_tab_get kx_M_ask 63 rfl) kc_b_7 <|
  sd_icmp_ge (pc := 112) (tgt := 226) (kt_tab_get kx_M_ask 64 rfl) rfl (sd_drop (k := 3) (sd_drop (k := 1) kz_M_ask_226)) (kz_M_ask_115 zh_109)
noncomputable def kd_M_ask_109 (n : Nat) : kt_D := Nat.rec (fun _ _ _ => none) (fun _ ih => kd_M_ask_109b ih) n
theorem kz_M_ask_109 (n : Nat) : kt_Snd l kt_shM kb_M_ask 5 RX7 (some .int) 5 0 0 false false 109 (kd_M_ask_109 n) := by
  induction n with
  | zero => exact sd_fail
  | succ n ih => exact kz_M_ask_109b ih
noncomputable def kd_M_ask_99 : kt_D := ki_aload 0 <| ki_push (.int 1) <| ki_callV kt_shM 7 1 kf_M_textNumber <| ki_istore 1 <| ki_push (.int 0) <| ki_istore 2 <| ki_push (.int 1) <| ki_istore 3 <| (kd_M_ask_109 100)
theorem kz_M_ask_99 : kt_Snd l kt_shM kb_M_ask 5 RX7 (some .int) 5 0 0 false false 99 kd_M_ask_99 :=
  sd_aload_n (pc := 99) (kt_tab_get kx_M_ask 54 rfl) rfl <|
  sd_iconst (pc := 100) (kt_tab_get kx_M_ask 55 rfl) kc_i_1 <|
  sd_callV (pc := 101) km_M_textNumber (by decide) kv_M_textNumber (ci := 7) kt_hc7 (by decide) (kt_tab_get kx_M_ask 56 rfl) (kg_M_ask_in _ (List.mem_of_getElem? (i := 16) rfl)) <|
  sd_istore_n (pc := 104) (kt_tab_get kx_M_ask 57 rfl) rfl (by decide) <|
  sd_iconst (pc := 105) (kt_tab_get kx_M_ask 58 rfl) kc_i_0 <|
  sd_istore_n (pc := 106) (kt_tab_get kx_M_ask 59 rfl) rfl (by decide) <|
  sd_iconst (pc := 107) (kt_tab_get kx_M_ask 60 rfl) kc_i_1 <|
  sd_istore_n (pc := 108) (kt_tab_get kx_M_ask 61 rfl) rfl (by decide) <|
  (kz_M_ask_109 100)
noncomputable def kd_M_ask_96 : kt_D := ki_push (.int 14) <| ki_iret
theorem kz_M_ask_96 : kt_Snd l kt_shM kb_M_ask 5 RX7 (some .int) 5 0 0 false false 96 kd_M_ask_96 :=
  sd_bipush (pc := 96) (kt_tab_get kx_M_ask 52 rfl) kc_b_14 <|
  sd_iret (pc := 98) rfl (by decide) (kt_tab_get kx_M_ask 53 rfl)
noncomputable def kd_M_ask_87 : kt_D := ki_aload 0 <| ki_push (.int 6) <| ki_callV kt_shM 7 1 kf_M_ticketWrong <| ki_if_eq kd_M_ask_99 (ki_drop 0 kd_M_ask_96)
theorem kz_M_ask_87 : kt_Snd l kt_shM kb_M_ask 5 RX7 (some .int) 5 0 0 false false 87 kd_M_ask_87 :=
  sd_aload_n (pc := 87) (kt_tab_get kx_M_ask 48 rfl) rfl <|
  sd_bipush (pc := 88) (kt_tab_get kx_M_ask 49 rfl) kc_b_6 <|
  sd_callV (pc := 90) km_M_ticketWrong (by decide) kv_M_ticketWrong (ci := 7) kt_hc7 (by decide) (kt_tab_get kx_M_ask 50 rfl) (kg_M_ask_in _ (List.mem_of_getElem? (i := 17) rfl)) <|
  sd_if_eq (pc := 93) (tgt := 99) (kt_tab_get kx_M_ask 51 rfl) rfl kz_M_ask_99 (sd_drop (k := 0) kz_M_ask_96)
noncomputable def kd_M_ask_78 : kt_D := ki_aload 0 <| ki_push (.int 6) <| ki_callV kt_shM 7 1 kf_M_there <| ki_if_eq kd_M_ask_99 kd_M_ask_87
theorem kz_M_ask_78 : kt_Snd l kt_shM kb_M_ask 5 RX7 (some .int) 5 0 0 false false 78 kd_M_ask_78 :=
  sd_aload_n (pc := 78) (kt_tab_get kx_M_ask 44 rfl) rfl <|
  sd_bipush (pc := 79) (kt_tab_get kx_M_ask 45 rfl) kc_b_6 <|
  sd_callV (pc := 81) km_M_there (by decide) kv_M_there (ci := 7) kt_hc7 (by decide) (kt_tab_get kx_M_ask 46 rfl) (kg_M_ask_in _ (List.mem_of_getElem? (i := 10) rfl)) <|
  sd_if_eq (pc := 84) (tgt := 99) (kt_tab_get kx_M_ask 47 rfl) rfl kz_M_ask_99 kz_M_ask_87
noncomputable def kd_M_ask_66 : kt_D := ki_aload 0 <| ki_push (.int 1) <| ki_callV kt_shM 7 1 kf_M_get <| ki_push (.int 8) <| ki_icmp_le kd_M_ask_78 (ki_drop 0 kd_M_ask_76)
theorem kz_M_ask_66 : kt_Snd l kt_shM kb_M_ask 5 RX7 (some .int) 5 0 0 false false 66 kd_M_ask_66 :=
  sd_aload_n (pc := 66) (kt_tab_get kx_M_ask 37 rfl) rfl <|
  sd_iconst (pc := 67) (kt_tab_get kx_M_ask 38 rfl) kc_i_1 <|
  sd_callV (pc := 68) km_M_get (by decide) kv_M_get (ci := 7) kt_hc7 (by decide) (kt_tab_get kx_M_ask 39 rfl) (kg_M_ask_in _ (List.mem_of_getElem? (i := 8) rfl)) <|
  sd_bipush (pc := 71) (kt_tab_get kx_M_ask 40 rfl) kc_b_8 <|
  sd_icmp_le (pc := 73) (tgt := 78) (kt_tab_get kx_M_ask 41 rfl) rfl kz_M_ask_78 (sd_drop (k := 0) kz_M_ask_76)
noncomputable def kd_M_ask_57 : kt_D := ki_aload 0 <| ki_push (.int 1) <| ki_callV kt_shM 7 1 kf_M_get <| ki_push (.int 1) <| ki_icmp_lt (ki_drop 0 kd_M_ask_76) kd_M_ask_66
theorem kz_M_ask_57 : kt_Snd l kt_shM kb_M_ask 5 RX7 (some .int) 5 0 0 false false 57 kd_M_ask_57 :=
  sd_aload_n (pc := 57) (kt_tab_get kx_M_ask 32 rfl) rfl <|
  sd_iconst (pc := 58) (kt_tab_get kx_M_ask 33 rfl) kc_i_1 <|
  sd_callV (pc := 59) km_M_get (by decide) kv_M_get (ci := 7) kt_hc7 (by decide) (kt_tab_get kx_M_ask 34 rfl) (kg_M_ask_in _ (List.mem_of_getElem? (i := 8) rfl)) <|
  sd_iconst (pc := 62) (kt_tab_get kx_M_ask 35 rfl) kc_i_1 <|
  sd_icmp_lt (pc := 63) (tgt := 76) (kt_tab_get kx_M_ask 36 rfl) rfl (sd_drop (k := 0) kz_M_ask_76) kz_M_ask_66
noncomputable def kd_M_ask_47 : kt_D := ki_aload 0 <| ki_push (.int 2) <| ki_callV kt_shM 7 1 kf_M_there <| ki_if_ne kd_M_ask_57 (ki_drop 0 kd_M_ask_55)
theorem kz_M_ask_47 : kt_Snd l kt_shM kb_M_ask 5 RX7 (some .int) 5 0 0 false false 47 kd_M_ask_47 :=
  sd_aload_n (pc := 47) (kt_tab_get kx_M_ask 26 rfl) rfl <|
  sd_iconst (pc := 48) (kt_tab_get kx_M_ask 27 rfl) kc_i_2 <|
  sd_callV (pc := 49) km_M_there (by decide) kv_M_there (ci := 7) kt_hc7 (by decide) (kt_tab_get kx_M_ask 28 rfl) (kg_M_ask_in _ (List.mem_of_getElem? (i := 10) rfl)) <|
  sd_if_ne (pc := 52) (tgt := 57) (kt_tab_get kx_M_ask 29 rfl) rfl kz_M_ask_57 (sd_drop (k := 0) kz_M_ask_55)
noncomputable def kd_M_ask_39 : kt_D := ki_aload 0 <| ki_push (.int 1) <| ki_callV kt_shM 7 1 kf_M_there <| ki_if_eq (ki_drop 0 kd_M_ask_55) kd_M_ask_47
theorem kz_M_ask_39 : kt_Snd l kt_shM kb_M_ask 5 RX7 (some .int) 5 0 0 false false 39 kd_M_ask_39 :=
  sd_aload_n (pc := 39) (kt_tab_get kx_M_ask 22 rfl) rfl <|
  sd_iconst (pc := 40) (kt_tab_get kx_M_ask 23 rfl) kc_i_1 <|
  sd_callV (pc := 41) km_M_there (by decide) kv_M_there (ci := 7) kt_hc7 (by decide) (kt_tab_get kx_M_ask 24 rfl) (kg_M_ask_in _ (List.mem_of_getElem? (i := 10) rfl)) <|
  sd_if_eq (pc := 44) (tgt := 55) (kt_tab_get kx_M_ask 25 rfl) rfl (sd_drop (k := 0) kz_M_ask_55) kz_M_ask_47
noncomputable def kd_M_ask_27 : kt_D := ki_aload 0 <| ki_push (.int 6) <| ki_push (.int 0) <| ki_callV kt_shM 7 2 kf_M_is <| ki_if_ne kd_M_ask_39 (ki_drop 0 kd_M_ask_37)
theorem kz_M_ask_27 : kt_Snd l kt_shM kb_M_ask 5 RX7 (some .int) 5 0 0 false false 27 kd_M_ask_27 :=
  sd_aload_n (pc := 27) (kt_tab_get kx_M_ask 15 rfl) rfl <|
  sd_bipush (pc := 28) (kt_tab_get kx_M_ask 16 rfl) kc_b_6 <|
  sd_iconst (pc := 30) (kt_tab_get kx_M_ask 17 rfl) kc_i_0 <|
  sd_callV (pc := 31) km_M_is (by decide) kv_M_is (ci := 7) kt_hc7 (by decide) (kt_tab_get kx_M_ask 18 rfl) (kg_M_ask_in _ (List.mem_of_getElem? (i := 18) rfl)) <|
  sd_if_ne (pc := 34) (tgt := 39) (kt_tab_get kx_M_ask 19 rfl) rfl kz_M_ask_39 (sd_drop (k := 0) kz_M_ask_37)
noncomputable def kd_M_ask_18 : kt_D := ki_aload 0 <| ki_push (.int 3) <| ki_push (.int 4) <| ki_callV kt_shM 7 2 kf_M_is <| ki_if_eq (ki_drop 0 kd_M_ask_37) kd_M_ask_27
theorem kz_M_ask_18 : kt_Snd l kt_shM kb_M_ask 5 RX7 (some .int) 5 0 0 false false 18 kd_M_ask_18 :=
  sd_aload_n (pc := 18) (kt_tab_get kx_M_ask 10 rfl) rfl <|
  sd_iconst (pc := 19) (kt_tab_get kx_M_ask 11 rfl) kc_i_3 <|
  sd_iconst (pc := 20) (kt_tab_get kx_M_ask 12 rfl) kc_i_4 <|
  sd_callV (pc := 21) km_M_is (by decide) kv_M_is (ci := 7) kt_hc7 (by decide) (kt_tab_get kx_M_ask 13 rfl) (kg_M_ask_in _ (List.mem_of_getElem? (i := 18) rfl)) <|
  sd_if_eq (pc := 24) (tgt := 37) (kt_tab_get kx_M_ask 14 rfl) rfl (sd_drop (k := 0) kz_M_ask_37) kz_M_ask_27
noncomputable def kd_M_ask_9 : kt_D := ki_aload 0 <| ki_push (.int 2) <| ki_push (.int 0) <| ki_callV kt_shM 7 2 kf_M_is <| ki_if_eq (ki_drop 0 kd_M_ask_37) kd_M_ask_18
theorem kz_M_ask_9 : kt_Snd l kt_shM kb_M_ask 5 RX7 (some .int) 5 0 0 false false 9 kd_M_ask_9 :=
  sd_aload_n (pc := 9) (kt_tab_get kx_M_ask 5 rfl) rfl <|
  sd_iconst (pc := 10) (kt_tab_get kx_M_ask 6 rfl) kc_i_2 <|
  sd_iconst (pc := 11) (kt_tab_get kx_M_ask 7 rfl) kc_i_0 <|
  sd_callV (pc := 12) km_M_is (by decide) kv_M_is (ci := 7) kt_hc7 (by decide) (kt_tab_get kx_M_ask 8 rfl) (kg_M_ask_in _ (List.mem_of_getElem? (i := 18) rfl)) <|
  sd_if_eq (pc := 15) (tgt := 37) (kt_tab_get kx_M_ask 9 rfl) rfl (sd_drop (k := 0) kz_M_ask_37) kz_M_ask_18
noncomputable def kd_M_ask_0 : kt_D := ki_aload 0 <| ki_push (.int 1) <| ki_push (.int 3) <| ki_callV kt_shM 7 2 kf_M_is <| ki_if_eq (ki_drop 0 kd_M_ask_37) kd_M_ask_9
theorem kz_M_ask_0 : kt_Snd l kt_shM kb_M_ask 5 RX7 (some .int) 5 0 0 false false 0 kd_M_ask_0 :=
  sd_aload_n (pc := 0) (kt_tab_get kx_M_ask 0 rfl) rfl <|
  sd_iconst (pc := 1) (kt_tab_get kx_M_ask 1 rfl) kc_i_1 <|
  sd_iconst (pc := 2) (kt_tab_get kx_M_ask 2 rfl) kc_i_3 <|
  sd_callV (pc := 3) km_M_is (by decide) kv_M_is (ci := 7) kt_hc7 (by decide) (kt_tab_get kx_M_ask 3 rfl) (kg_M_ask_in _ (List.mem_of_getElem? (i := 18) rfl)) <|
  sd_if_eq (pc := 6) (tgt := 37) (kt_tab_get kx_M_ask 4 rfl) rfl (sd_drop (k := 0) kz_M_ask_37) kz_M_ask_9
noncomputable def kf_M_ask : kt_F := kt_run 5 kd_M_ask_0
theorem km_M_ask : kt_M l kt_shM ky_M_ask kb_M_ask 5 (some .int) 5 false kf_M_ask := kt_method (by decide) rfl kz_M_ask_0
noncomputable def kd_M_next_16 : kt_D := ki_iret
theorem kz_M_next_16 : kt_Snd l kt_shM kb_M_next 1 RX7 (some .int) 5 0 0 false false 16 kd_M_next_16 :=
  sd_iret (pc := 16) rfl (by decide) (kt_tab_get kx_M_next 8 rfl)
noncomputable def kd_M_next_11 : kt_D := ki_aload 0 <| ki_push (.int 0) <| ki_callV kt_shM 7 1 kf_M_signNext <| (ki_drop 0 kd_M_next_16)
theorem kz_M_next_11 : kt_Snd l kt_shM kb_M_next 1 RX7 (some .int) 5 0 0 false false 11 kd_M_next_11 :=
  sd_aload_n (pc := 11) (kt_tab_get kx_M_next 5 rfl) rfl <|
  sd_iconst (pc := 12) (kt_tab_get kx_M_next 6 rfl) kc_i_0 <|
  sd_callV (pc := 13) km_M_signNext (by decide) kv_M_signNext (ci := 7) kt_hc7 (by decide) (kt_tab_get kx_M_next 7 rfl) (kg_M_next_in _ (List.mem_of_getElem? (i := 4) rfl)) <|
  (sd_drop (k := 0) kz_M_next_16)
noncomputable def kd_M_next_7 : kt_D := ki_push (.int 5) <| kd_M_next_16
theorem kz_M_next_7 : kt_Snd l kt_shM kb_M_next 1 RX7 (some .int) 5 0 0 false false 7 kd_M_next_7 :=
  sd_iconst (pc := 7) (kt_tab_get kx_M_next 3 rfl) kc_i_5 <|
  sd_goto (pc := 8) (tgt := 16) (kt_tab_get kx_M_next 4 rfl) rfl kz_M_next_16
noncomputable def kd_M_next_0 : kt_D := ki_aload 0 <| ki_get kt_shM 7 13 <| ki_if_ne kd_M_next_11 (ki_drop 0 kd_M_next_7)
theorem kz_M_next_0 : kt_Snd l kt_shM kb_M_next 1 RX7 (some .int) 5 0 0 false false 0 kd_M_next_0 :=
  sd_aload_n (pc := 0) (kt_tab_get kx_M_next 0 rfl) rfl <|
  sd_get (pc := 1) (k := 13) (ci := 7) kt_hc7 kt_hin7 (by decide) (kt_tab_get kx_M_next 1 rfl) (kg_M_next_in _ (List.mem_of_getElem? (i := 5) rfl)) <|
  sd_if_ne (pc := 4) (tgt := 11) (kt_tab_get kx_M_next 2 rfl) rfl kz_M_next_11 (sd_drop (k := 0) kz_M_next_7)
noncomputable def kf_M_next : kt_F := kt_run 1 kd_M_next_0
theorem km_M_next : kt_M l kt_shM ky_M_next kb_M_next 1 (some .int) 5 false kf_M_next := kt_method (by decide) rfl kz_M_next_0
noncomputable def kd_M_tried_124 : kt_D := ki_aload 0 <| ki_dup <| ki_get kt_shM 7 18 <| ki_push (.int 1) <| ki_iadd <| ki_put kt_shM 7 18 0 <| ki_aload 0 <| ki_aload 0 <| ki_get kt_shM 7 18 <| ki_put kt_shM 7 8 0 <| ki_aload 0 <| ki_push (.int 1) <| ki_callV kt_shM 7 1 kf_M_begin <| ki_aload 0 <| ki_push (.int 1) <| ki_aload 0 <| ki_get kt_shM 7 8 <| ki_callV kt_shM 7 2 kf_M_pair <| ki_push (.int 0) <| ki_iret
theorem kz_M_tried_124 : kt_Snd l kt_shM kb_M_tried 4 RX7 (some .int) 4 0 0 false false 124 kd_M_tried_124 :=
  sd_aload_n (pc := 124) (kt_tab_get kx_M_tried 76 rfl) rfl <|
  sd_dup (pc := 125) (kt_tab_get kx_M_tried 77 rfl) <|
  sd_get (pc := 126) (k := 18) (ci := 7) kt_hc7 kt_hin7 (by decide) (kt_tab_get kx_M_tried 78 rfl) (kg_M_tried_in _ (List.mem_of_getElem? (i := 4) rfl)) <|
  sd_iconst (pc := 129) (kt_tab_get kx_M_tried 79 rfl) kc_i_1 <|
  sd_iadd (pc := 130) (kt_tab_get kx_M_tried 80 rfl) <|
  sd_put (pc := 131) (k := 18) (ci := 7) kt_hc7 kt_hin7 tyX7_ok nmX7 (by decide) rfl rfl (Or.inl ⟨rfl, rfl⟩) (kt_tab_get kx_M_tried 81 rfl) (kg_M_tried_in _ (List.mem_of_getElem? (i := 4) rfl)) <|
  sd_aload_n (pc := 134) (kt_tab_get kx_M_tried 82 rfl) rfl <|
  sd_aload_n (pc := 135) (kt_tab_get kx_M_tried 83 rfl) rfl <|
  sd_get (pc := 136) (k := 18) (ci := 7) kt_hc7 kt_hin7 (by decide) (kt_tab_get kx_M_tried 84 rfl) (kg_M_tried_in _ (List.mem_of_getElem? (i := 4) rfl)) <|
  sd_put (pc := 139) (k := 8) (ci := 7) kt_hc7 kt_hin7 tyX7_ok nmX7 (by decide) rfl rfl (Or.inl ⟨rfl, rfl⟩) (kt_tab_get kx_M_tried 85 rfl) (kg_M_tried_in _ (List.mem_of_getElem? (i := 5) rfl)) <|
  sd_aload_n (pc := 142) (kt_tab_get kx_M_tried 86 rfl) rfl <|
  sd_iconst (pc := 143) (kt_tab_get kx_M_tried 87 rfl) kc_i_1 <|
  sd_callV (pc := 144) km_M_begin (by decide) kv_M_begin (ci := 7) kt_hc7 (by decide) (kt_tab_get kx_M_tried 88 rfl) (kg_M_tried_in _ (List.mem_of_getElem? (i := 6) rfl)) <|
  sd_aload_n (pc := 147) (kt_tab_get kx_M_tried 89 rfl) rfl <|
  sd_iconst (pc := 148) (kt_tab_get kx_M_tried 90 rfl) kc_i_1 <|
  sd_aload_n (pc := 149) (kt_tab_get kx_M_tried 91 rfl) rfl <|
  sd_get (pc := 150) (k := 8) (ci := 7) kt_hc7 kt_hin7 (by decide) (kt_tab_get kx_M_tried 92 rfl) (kg_M_tried_in _ (List.mem_of_getElem? (i := 5) rfl)) <|
  sd_callV (pc := 153) km_M_pair (by decide) kv_M_pair (ci := 7) kt_hc7 (by decide) (kt_tab_get kx_M_tried 93 rfl) (kg_M_tried_in _ (List.mem_of_getElem? (i := 7) rfl)) <|
  sd_iconst (pc := 156) (kt_tab_get kx_M_tried 94 rfl) kc_i_0 <|
  sd_iret (pc := 157) rfl (by decide) (kt_tab_get kx_M_tried 95 rfl)
noncomputable def kd_M_tried_117 : kt_D := ki_aload 0 <| ki_push (.int 0) <| ki_put kt_shM 7 8 0 <| ki_push (.int 0) <| ki_iret
theorem kz_M_tried_117 : kt_Snd l kt_shM kb_M_tried 4 RX7 (some .int) 4 0 0 false false 117 kd_M_tried_117 :=
  sd_aload_n (pc := 117) (kt_tab_get kx_M_tried 71 rfl) rfl <|
  sd_iconst (pc := 118) (kt_tab_get kx_M_tried 72 rfl) kc_i_0 <|
  sd_put (pc := 119) (k := 8) (ci := 7) kt_hc7 kt_hin7 tyX7_ok nmX7 (by decide) rfl rfl (Or.inl ⟨rfl, rfl⟩) (kt_tab_get kx_M_tried 73 rfl) (kg_M_tried_in _ (List.mem_of_getElem? (i := 5) rfl)) <|
  sd_iconst (pc := 122) (kt_tab_get kx_M_tried 74 rfl) kc_i_0 <|
  sd_iret (pc := 123) rfl (by decide) (kt_tab_get kx_M_tried 75 rfl)
noncomputable def kd_M_tried_112 : kt_D := ki_iload 1 <| ki_push (.int 4) <| ki_icmp_ne (ki_drop 1 kd_M_tried_124) (ki_drop 1 kd_M_tried_117)
theorem kz_M_tried_112 : kt_Snd l kt_shM kb_M_tried 4 RX7 (some .int) 4 0 0 false false 112 kd_M_tried_112 :=
  sd_iload_n (pc := 112) (kt_tab_get kx_M_tried 68 rfl) rfl <|
  sd_iconst (pc := 113) (kt_tab_get kx_M_tried 69 rfl) kc_i_4 <|
  sd_icmp_ne (pc := 114) (tgt := 124) (kt_tab_get kx_M_tried 70 rfl) rfl (sd_drop (k := 1) kz_M_tried_124) (sd_drop (k := 1) kz_M_tried_117)
noncomputable def kd_M_tried_110 : kt_D := ki_push (.int (-1)) <| ki_iret
theorem kz_M_tried_110 : kt_Snd l kt_shM kb_M_tried 4 RX7 (some .int) 4 0 0 false false 110 kd_M_tried_110 :=
  sd_iconst (pc := 110) (kt_tab_get kx_M_tried 66 rfl) kc_i_m1 <|
  sd_iret (pc := 111) rfl (by decide) (kt_tab_get kx_M_tried 67 rfl)
noncomputable def kd_M_tried_100 : kt_D := ki_push (.int 8) <| ki_push (.int 0) <| ki_push (.int 0) <| ki_callV kt_shM 7 5 kf_M_put <| ki_if_ne kd_M_tried_112 (ki_drop 1 (ki_drop 0 kd_M_tried_110))
theorem kz_M_tried_100 : kt_Snd l kt_shM kb_M_tried 4 RX7 (some .int) 4 0 0 false false 100 kd_M_tried_100 :=
  sd_bipush (pc := 100) (kt_tab_get kx_M_tried 61 rfl) kc_b_8 <|
  sd_iconst (pc := 102) (kt_tab_get kx_M_tried 62 rfl) kc_i_0 <|
  sd_iconst (pc := 103) (kt_tab_get kx_M_tried 63 rfl) kc_i_0 <|
  sd_callV (pc := 104) km_M_put (by decide) kv_M_put (ci := 7) kt_hc7 (by decide) (kt_tab_get kx_M_tried 64 rfl) (kg_M_tried_in _ (List.mem_of_getElem? (i := 8) rfl)) <|
  sd_if_ne (pc := 107) (tgt := 112) (kt_tab_get kx_M_tried 65 rfl) rfl kz_M_tried_112 (sd_drop (k := 1) (sd_drop (k := 0) kz_M_tried_110))
noncomputable def kd_M_tried_99 : kt_D := ki_iload 2 <| (ki_drop 2 kd_M_tried_100)
theorem kz_M_tried_99 : kt_Snd l kt_shM kb_M_tried 4 RX7 (some .int) 4 0 0 false false 99 kd_M_tried_99 :=
  sd_iload_n (pc := 99) (kt_tab_get kx_M_tried 60 rfl) rfl <|
  (sd_drop (k := 2) kz_M_tried_100)
noncomputable def kd_M_tried_91 : kt_D := ki_aload 0 <| ki_push (.int 3) <| ki_callV kt_shM 7 1 kf_M_textNumber <| kd_M_tried_100
theorem kz_M_tried_91 : kt_Snd l kt_shM kb_M_tried 4 RX7 (some .int) 4 0 0 false false 91 kd_M_tried_91 :=
  sd_aload_n (pc := 91) (kt_tab_get kx_M_tried 56 rfl) rfl <|
  sd_iconst (pc := 92) (kt_tab_get kx_M_tried 57 rfl) kc_i_3 <|
  sd_callV (pc := 93) km_M_textNumber (by decide) kv_M_textNumber (ci := 7) kt_hc7 (by decide) (kt_tab_get kx_M_tried 58 rfl) (kg_M_tried_in _ (List.mem_of_getElem? (i := 9) rfl)) <|
  sd_goto (pc := 96) (tgt := 100) (kt_tab_get kx_M_tried 59 rfl) rfl kz_M_tried_100
noncomputable def kd_M_tried_79 : kt_D := ki_aload 0 <| ki_push (.int 0) <| ki_put kt_shM 7 7 0 <| ki_aload 0 <| ki_push (.int 0) <| ki_iload 1 <| ki_push (.int 4) <| ki_icmp_ne kd_M_tried_99 (ki_drop 2 kd_M_tried_91)
theorem kz_M_tried_79 : kt_Snd l kt_shM kb_M_tried 4 RX7 (some .int) 4 0 0 false false 79 kd_M_tried_79 :=
  sd_aload_n (pc := 79) (kt_tab_get kx_M_tried 48 rfl) rfl <|
  sd_iconst (pc := 80) (kt_tab_get kx_M_tried 49 rfl) kc_i_0 <|
  sd_put (pc := 81) (k := 7) (ci := 7) kt_hc7 kt_hin7 tyX7_ok nmX7 (by decide) rfl rfl (Or.inl ⟨rfl, rfl⟩) (kt_tab_get kx_M_tried 50 rfl) (kg_M_tried_in _ (List.mem_of_getElem? (i := 10) rfl)) <|
  sd_aload_n (pc := 84) (kt_tab_get kx_M_tried 51 rfl) rfl <|
  sd_iconst (pc := 85) (kt_tab_get kx_M_tried 52 rfl) kc_i_0 <|
  sd_iload_n (pc := 86) (kt_tab_get kx_M_tried 53 rfl) rfl <|
  sd_iconst (pc := 87) (kt_tab_get kx_M_tried 54 rfl) kc_i_4 <|
  sd_icmp_ne (pc := 88) (tgt := 99) (kt_tab_get kx_M_tried 55 rfl) rfl kz_M_tried_99 (sd_drop (k := 2) kz_M_tried_91)
noncomputable def kd_M_tried_78 : kt_D := ki_iret
theorem kz_M_tried_78 : kt_Snd l kt_shM kb_M_tried 4 RX7 (some .int) 4 0 0 false false 78 kd_M_tried_78 :=
  sd_iret (pc := 78) rfl (by decide) (kt_tab_get kx_M_tried 47 rfl)
noncomputable def kd_M_tried_76 : kt_D := ki_push (.int 10) <| kd_M_tried_78
theorem kz_M_tried_76 : kt_Snd l kt_shM kb_M_tried 4 RX7 (some .int) 4 0 0 false false 76 kd_M_tried_76 :=
  sd_bipush (pc := 76) (kt_tab_get kx_M_tried 46 rfl) kc_b_10 <|
  kz_M_tried_78
noncomputable def kd_M_tried_71 : kt_D := ki_push (.int 12) <| kd_M_tried_78
theorem kz_M_tried_71 : kt_Snd l kt_shM kb_M_tried 4 RX7 (some .int) 4 0 0 false false 71 kd_M_tried_71 :=
  sd_bipush (pc := 71) (kt_tab_get kx_M_tried 44 rfl) kc_b_12 <|
  sd_goto (pc := 73) (tgt := 78) (kt_tab_get kx_M_tried 45 rfl) rfl kz_M_tried_78
noncomputable def kd_M_tried_63 : kt_D := ki_aload 0 <| ki_get kt_shM 7 7 <| ki_push (.int 3) <| ki_icmp_ne (ki_drop 0 kd_M_tried_76) (ki_drop 0 kd_M_tried_71)
theorem kz_M_tried_63 : kt_Snd l kt_shM kb_M_tried 4 RX7 (some .int) 4 0 0 false false 63 kd_M_tried_63 :=
  sd_aload_n (pc := 63) (kt_tab_get kx_M_tried 40 rfl) rfl <|
  sd_get (pc := 64) (k := 7) (ci := 7) kt_hc7 kt_hin7 (by decide) (kt_tab_get kx_M_tried 41 rfl) (kg_M_tried_in _ (List.mem_of_getElem? (i := 10) rfl)) <|
  sd_iconst (pc := 67) (kt_tab_get kx_M_tried 42 rfl) kc_i_3 <|
  sd_icmp_ne (pc := 68) (tgt := 76) (kt_tab_get kx_M_tried 43 rfl) rfl (sd_drop (k := 0) kz_M_tried_76) (sd_drop (k := 0) kz_M_tried_71)
noncomputable def kd_M_tried_58 : kt_D := ki_push (.int 11) <| kd_M_tried_78
theorem kz_M_tried_58 : kt_Snd l kt_shM kb_M_tried 4 RX7 (some .int) 4 0 0 false false 58 kd_M_tried_58 :=
  sd_bipush (pc := 58) (kt_tab_get kx_M_tried 38 rfl) kc_b_11 <|
  sd_goto (pc := 60) (tgt := 78) (kt_tab_get kx_M_tried 39 rfl) rfl kz_M_tried_78
noncomputable def kd_M_tried_39 : kt_D := ki_aload 0 <| ki_dup <| ki_get kt_shM 7 7 <| ki_push (.int 1) <| ki_iadd <| ki_put kt_shM 7 7 0 <| ki_aload 0 <| ki_push (.int 0) <| ki_put kt_shM 7 8 0 <| ki_iload 3 <| ki_if_ne (ki_drop 3 kd_M_tried_63) (ki_drop 3 (ki_drop 0 kd_M_tried_58))
theorem kz_M_tried_39 : kt_Snd l kt_shM kb_M_tried 4 RX7 (some .int) 4 0 0 false false 39 kd_M_tried_39 :=
  sd_aload_n (pc := 39) (kt_tab_get kx_M_tried 27 rfl) rfl <|
  sd_dup (pc := 40) (kt_tab_get kx_M_tried 28 rfl) <|
  sd_get (pc := 41) (k := 7) (ci := 7) kt_hc7 kt_hin7 (by decide) (kt_tab_get kx_M_tried 29 rfl) (kg_M_tried_in _ (List.mem_of_getElem? (i := 10) rfl)) <|
  sd_iconst (pc := 44) (kt_tab_get kx_M_tried 30 rfl) kc_i_1 <|
  sd_iadd (pc := 45) (kt_tab_get kx_M_tried 31 rfl) <|
  sd_put (pc := 46) (k := 7) (ci := 7) kt_hc7 kt_hin7 tyX7_ok nmX7 (by decide) rfl rfl (Or.inl ⟨rfl, rfl⟩) (kt_tab_get kx_M_tried 32 rfl) (kg_M_tried_in _ (List.mem_of_getElem? (i := 10) rfl)) <|
  sd_aload_n (pc := 49) (kt_tab_get kx_M_tried 33 rfl) rfl <|
  sd_iconst (pc := 50) (kt_tab_get kx_M_tried 34 rfl) kc_i_0 <|
  sd_put (pc := 51) (k := 8) (ci := 7) kt_hc7 kt_hin7 tyX7_ok nmX7 (by decide) rfl rfl (Or.inl ⟨rfl, rfl⟩) (kt_tab_get kx_M_tried 35 rfl) (kg_M_tried_in _ (List.mem_of_getElem? (i := 5) rfl)) <|
  sd_iload_n (pc := 54) (kt_tab_get kx_M_tried 36 rfl) rfl <|
  sd_if_ne (pc := 55) (tgt := 63) (kt_tab_get kx_M_tried 37 rfl) rfl (sd_drop (k := 3) kz_M_tried_63) (sd_drop (k := 3) (sd_drop (k := 0) kz_M_tried_58))
noncomputable def kd_M_tried_30 : kt_D := ki_aload 0 <| ki_push (.int 2) <| ki_callV kt_shM 7 1 kf_M_textNumber <| ki_iload 2 <| ki_icmp_eq (ki_drop 3 kd_M_tried_79) (ki_drop 2 (ki_drop 1 kd_M_tried_39))
theorem kz_M_tried_30 : kt_Snd l kt_shM kb_M_tried 4 RX7 (some .int) 4 0 0 false false 30 kd_M_tried_30 :=
  sd_aload_n (pc := 30) (kt_tab_get kx_M_tried 22 rfl) rfl <|
  sd_iconst (pc := 31) (kt_tab_get kx_M_tried 23 rfl) kc_i_2 <|
  sd_callV (pc := 32) km_M_textNumber (by decide) kv_M_textNumber (ci := 7) kt_hc7 (by decide) (kt_tab_get kx_M_tried 24 rfl) (kg_M_tried_in _ (List.mem_of_getElem? (i := 9) rfl)) <|
  sd_iload_n (pc := 35) (kt_tab_get kx_M_tried 25 rfl) rfl <|
  sd_icmp_eq (pc := 36) (tgt := 79) (kt_tab_get kx_M_tried 26 rfl) rfl (sd_drop (k := 3) kz_M_tried_79) (sd_drop (k := 2) (sd_drop (k := 1) kz_M_tried_39))
noncomputable def kd_M_tried_28 : kt_D := ki_push (.int (-1)) <| ki_iret
theorem kz_M_tried_28 : kt_Snd l kt_shM kb_M_tried 4 RX7 (some .int) 4 0 0 false false 28 kd_M_tried_28 :=
  sd_iconst (pc := 28) (kt_tab_get kx_M_tried 20 rfl) kc_i_m1 <|
  sd_iret (pc := 29) rfl (by decide) (kt_tab_get kx_M_tried 21 rfl)
noncomputable def kd_M_tried_0 : kt_D := ki_aload 0 <| ki_push (.int 0) <| ki_push (.int 1) <| ki_callV kt_shM 7 2 kf_M_data <| ki_istore 2 <| ki_aload 0 <| ki_push (.int 0) <| ki_push (.int 2) <| ki_callV kt_shM 7 2 kf_M_data <| ki_push (.int 1) <| ki_isub <| ki_istore 3 <| ki_aload 0 <| ki_push (.int 0) <| ki_iload 2 <| ki_iload 3 <| ki_push (.int 0) <| ki_push (.int 0) <| ki_callV kt_shM 7 5 kf_M_put <| ki_if_ne kd_M_tried_30 (ki_drop 3 (ki_drop 2 (ki_drop 1 (ki_drop 0 kd_M_tried_28))))
theorem kz_M_tried_0 : kt_Snd l kt_shM kb_M_tried 4 RX7 (some .int) 4 0 0 false false 0 kd_M_tried_0 :=
  sd_aload_n (pc := 0) (kt_tab_get kx_M_tried 0 rfl) rfl <|
  sd_iconst (pc := 1) (kt_tab_get kx_M_tried 1 rfl) kc_i_0 <|
  sd_iconst (pc := 2) (kt_tab_get kx_M_tried 2 rfl) kc_i_1 <|
  sd_callV (pc := 3) km_M_data (by decide) kv_M_data (ci := 7) kt_hc7 (by decide) (kt_tab_get kx_M_tried 3 rfl) (kg_M_tried_in _ (List.mem_of_getElem? (i := 11) rfl)) <|
  sd_istore_n (pc := 6) (kt_tab_get kx_M_tried 4 rfl) rfl (by decide) <|
  sd_aload_n (pc := 7) (kt_tab_get kx_M_tried 5 rfl) rfl <|
  sd_iconst (pc := 8) (kt_tab_get kx_M_tried 6 rfl) kc_i_0 <|
  sd_iconst (pc := 9) (kt_tab_get kx_M_tried 7 rfl) kc_i_2 <|
  sd_callV (pc := 10) km_M_data (by decide) kv_M_data (ci := 7) kt_hc7 (by decide) (kt_tab_get kx_M_tried 8 rfl) (kg_M_tried_in _ (List.mem_of_getElem? (i := 11) rfl)) <|
  sd_iconst (pc := 13) (kt_tab_get kx_M_tried 9 rfl) kc_i_1 <|
  sd_isub (pc := 14) (kt_tab_get kx_M_tried 10 rfl) <|
  sd_istore_n (pc := 15) (kt_tab_get kx_M_tried 11 rfl) rfl (by decide) <|
  sd_aload_n (pc := 16) (kt_tab_get kx_M_tried 12 rfl) rfl <|
  sd_iconst (pc := 17) (kt_tab_get kx_M_tried 13 rfl) kc_i_0 <|
  sd_iload_n (pc := 18) (kt_tab_get kx_M_tried 14 rfl) rfl <|
  sd_iload_n (pc := 19) (kt_tab_get kx_M_tried 15 rfl) rfl <|
  sd_iconst (pc := 20) (kt_tab_get kx_M_tried 16 rfl) kc_i_0 <|
  sd_iconst (pc := 21) (kt_tab_get kx_M_tried 17 rfl) kc_i_0 <|
  sd_callV (pc := 22) km_M_put (by decide) kv_M_put (ci := 7) kt_hc7 (by decide) (kt_tab_get kx_M_tried 18 rfl) (kg_M_tried_in _ (List.mem_of_getElem? (i := 8) rfl)) <|
  sd_if_ne (pc := 25) (tgt := 30) (kt_tab_get kx_M_tried 19 rfl) rfl kz_M_tried_30 (sd_drop (k := 3) (sd_drop (k := 2) (sd_drop (k := 1) (sd_drop (k := 0) kz_M_tried_28))))
noncomputable def kf_M_tried : kt_F := kt_run 4 kd_M_tried_0
theorem km_M_tried : kt_M l kt_shM ky_M_tried kb_M_tried 4 (some .int) 4 false kf_M_tried := kt_method (by decide) rfl kz_M_tried_0
noncomputable def kd_M_pin_27 : kt_D := ki_push (.int 3) <| ki_iret
theorem kz_M_pin_27 : kt_Snd l kt_shM kb_M_pin 4 RX7 (some .int) 5 0 0 false false 27 kd_M_pin_27 :=
  sd_iconst (pc := 27) (kt_tab_get kx_M_pin 15 rfl) kc_i_3 <|
  sd_iret (pc := 28) rfl (by decide) (kt_tab_get kx_M_pin 16 rfl)
noncomputable def kd_M_pin_91 : kt_D := ki_push (.int 4) <| ki_iret
theorem kz_M_pin_91 : kt_Snd l kt_shM kb_M_pin 4 RX7 (some .int) 5 0 0 false false 91 kd_M_pin_91 :=
  sd_iconst (pc := 91) (kt_tab_get kx_M_pin 51 rfl) kc_i_4 <|
  sd_iret (pc := 92) rfl (by decide) (kt_tab_get kx_M_pin 52 rfl)
noncomputable def kd_M_pin_291 : kt_D := ki_iret
theorem kz_M_pin_291 : kt_Snd l kt_shM kb_M_pin 4 RX7 (some .int) 5 0 0 false false 291 kd_M_pin_291 :=
  sd_iret (pc := 291) rfl (by decide) (kt_tab_get kx_M_pin 164 rfl)
noncomputable def kd_M_pin_286 : kt_D := ki_aload 0 <| ki_iload 1 <| ki_callV kt_shM 7 1 kf_M_tried <| (ki_drop 1 (ki_drop 0 kd_M_pin_291))
theorem kz_M_pin_286 : kt_Snd l kt_shM kb_M_pin 4 RX7 (some .int) 5 0 0 false false 286 kd_M_pin_286 :=
  sd_aload_n (pc := 286) (kt_tab_get kx_M_pin 161 rfl) rfl <|
  sd_iload_n (pc := 287) (kt_tab_get kx_M_pin 162 rfl) rfl <|
  sd_callV (pc := 288) km_M_tried (by decide) kv_M_tried (ci := 7) kt_hc7 (by decide) (kt_tab_get kx_M_pin 163 rfl) (kg_M_pin_in _ (List.mem_of_getElem? (i := 4) rfl)) <|
  (sd_drop (k := 1) (sd_drop (k := 0) kz_M_pin_291))
noncomputable def kd_M_pin_281 : kt_D := ki_push (.int 15) <| kd_M_pin_291
theorem kz_M_pin_281 : kt_Snd l kt_shM kb_M_pin 4 RX7 (some .int) 5 0 0 false false 281 kd_M_pin_281 :=
  sd_bipush (pc := 281) (kt_tab_get kx_M_pin 159 rfl) kc_b_15 <|
  sd_goto (pc := 283) (tgt := 291) (kt_tab_get kx_M_pin 160 rfl) rfl kz_M_pin_291
noncomputable def kd_M_pin_277 : kt_D := ki_iload 3 <| ki_if_ne (ki_drop 3 kd_M_pin_286) (ki_drop 3 (ki_drop 1 (ki_drop 0 kd_M_pin_281)))
theorem kz_M_pin_277 : kt_Snd l kt_shM kb_M_pin 4 RX7 (some .int) 5 0 0 false false 277 kd_M_pin_277 :=
  sd_iload_n (pc := 277) (kt_tab_get kx_M_pin 157 rfl) rfl <|
  sd_if_ne (pc := 278) (tgt := 286) (kt_tab_get kx_M_pin 158 rfl) rfl (sd_drop (k := 3) kz_M_pin_286) (sd_drop (k := 3) (sd_drop (k := 1) (sd_drop (k := 0) kz_M_pin_281)))
noncomputable def kd_M_pin_272 : kt_D := ki_iload 1 <| ki_push (.int 4) <| ki_icmp_ne (ki_drop 3 kd_M_pin_286) kd_M_pin_277
theorem kz_M_pin_272 : kt_Snd l kt_shM kb_M_pin 4 RX7 (some .int) 5 0 0 false false 272 kd_M_pin_272 :=
  sd_iload_n (pc := 272) (kt_tab_get kx_M_pin 154 rfl) rfl <|
  sd_iconst (pc := 273) (kt_tab_get kx_M_pin 155 rfl) kc_i_4 <|
  sd_icmp_ne (pc := 274) (tgt := 286) (kt_tab_get kx_M_pin 156 rfl) rfl (sd_drop (k := 3) kz_M_pin_286) kz_M_pin_277
noncomputable def kd_M_pin_269 : kt_D := ki_push (.int 12) <| ki_iret
theorem kz_M_pin_269 : kt_Snd l kt_shM kb_M_pin 4 RX7 (some .int) 5 0 0 false false 269 kd_M_pin_269 :=
  sd_bipush (pc := 269) (kt_tab_get kx_M_pin 152 rfl) kc_b_12 <|
  sd_iret (pc := 271) rfl (by decide) (kt_tab_get kx_M_pin 153 rfl)
noncomputable def kd_M_pin_261 : kt_D := ki_aload 0 <| ki_get kt_shM 7 7 <| ki_push (.int 3) <| ki_icmp_ne kd_M_pin_272 (ki_drop 3 (ki_drop 1 (ki_drop 0 kd_M_pin_269)))
theorem kz_M_pin_261 : kt_Snd l kt_shM kb_M_pin 4 RX7 (some .int) 5 0 0 false false 261 kd_M_pin_261 :=
  sd_aload_n (pc := 261) (kt_tab_get kx_M_pin 148 rfl) rfl <|
  sd_get (pc := 262) (k := 7) (ci := 7) kt_hc7 kt_hin7 (by decide) (kt_tab_get kx_M_pin 149 rfl) (kg_M_pin_in _ (List.mem_of_getElem? (i := 5) rfl)) <|
  sd_iconst (pc := 265) (kt_tab_get kx_M_pin 150 rfl) kc_i_3 <|
  sd_icmp_ne (pc := 266) (tgt := 272) (kt_tab_get kx_M_pin 151 rfl) rfl kz_M_pin_272 (sd_drop (k := 3) (sd_drop (k := 1) (sd_drop (k := 0) kz_M_pin_269)))
noncomputable def kd_M_pin_258 : kt_D := ki_push (.int 11) <| ki_iret
theorem kz_M_pin_258 : kt_Snd l kt_shM kb_M_pin 4 RX7 (some .int) 5 0 0 false false 258 kd_M_pin_258 :=
  sd_bipush (pc := 258) (kt_tab_get kx_M_pin 146 rfl) kc_b_11 <|
  sd_iret (pc := 260) rfl (by decide) (kt_tab_get kx_M_pin 147 rfl)
noncomputable def kd_M_pin_249 : kt_D := ki_aload 0 <| ki_push (.int 0) <| ki_push (.int 2) <| ki_callV kt_shM 7 2 kf_M_data <| ki_if_ne kd_M_pin_261 (ki_drop 3 (ki_drop 1 (ki_drop 0 kd_M_pin_258)))
theorem kz_M_pin_249 : kt_Snd l kt_shM kb_M_pin 4 RX7 (some .int) 5 0 0 false false 249 kd_M_pin_249 :=
  sd_aload_n (pc := 249) (kt_tab_get kx_M_pin 141 rfl) rfl <|
  sd_iconst (pc := 250) (kt_tab_get kx_M_pin 142 rfl) kc_i_0 <|
  sd_iconst (pc := 251) (kt_tab_get kx_M_pin 143 rfl) kc_i_2 <|
  sd_callV (pc := 252) km_M_data (by decide) kv_M_data (ci := 7) kt_hc7 (by decide) (kt_tab_get kx_M_pin 144 rfl) (kg_M_pin_in _ (List.mem_of_getElem? (i := 6) rfl)) <|
  sd_if_ne (pc := 255) (tgt := 261) (kt_tab_get kx_M_pin 145 rfl) rfl kz_M_pin_261 (sd_drop (k := 3) (sd_drop (k := 1) (sd_drop (k := 0) kz_M_pin_258)))
noncomputable def kd_M_pin_246 : kt_D := ki_push (.int 13) <| ki_iret
theorem kz_M_pin_246 : kt_Snd l kt_shM kb_M_pin 4 RX7 (some .int) 5 0 0 false false 246 kd_M_pin_246 :=
  sd_bipush (pc := 246) (kt_tab_get kx_M_pin 139 rfl) kc_b_13 <|
  sd_iret (pc := 248) rfl (by decide) (kt_tab_get kx_M_pin 140 rfl)
noncomputable def kd_M_pin_242 : kt_D := ki_iload 2 <| ki_if_ne (ki_drop 2 kd_M_pin_249) (ki_drop 3 (ki_drop 2 (ki_drop 1 (ki_drop 0 kd_M_pin_246))))
theorem kz_M_pin_242 : kt_Snd l kt_shM kb_M_pin 4 RX7 (some .int) 5 0 0 false false 242 kd_M_pin_242 :=
  sd_iload_n (pc := 242) (kt_tab_get kx_M_pin 137 rfl) rfl <|
  sd_if_ne (pc := 243) (tgt := 249) (kt_tab_get kx_M_pin 138 rfl) rfl (sd_drop (k := 2) kz_M_pin_249) (sd_drop (k := 3) (sd_drop (k := 2) (sd_drop (k := 1) (sd_drop (k := 0) kz_M_pin_246))))
noncomputable def kd_M_pin_240 : kt_D := ki_push (.int 5) <| ki_iret
theorem kz_M_pin_240 : kt_Snd l kt_shM kb_M_pin 4 RX7 (some .int) 5 0 0 false false 240 kd_M_pin_240 :=
  sd_iconst (pc := 240) (kt_tab_get kx_M_pin 135 rfl) kc_i_5 <|
  sd_iret (pc := 241) rfl (by decide) (kt_tab_get kx_M_pin 136 rfl)
noncomputable def kd_M_pin_235 : kt_D := ki_iload 1 <| ki_push (.int 5) <| ki_icmp_eq kd_M_pin_242 (ki_drop 3 (ki_drop 2 (ki_drop 1 (ki_drop 0 kd_M_pin_240))))
theorem kz_M_pin_235 : kt_Snd l kt_shM kb_M_pin 4 RX7 (some .int) 5 0 0 false false 235 kd_M_pin_235 :=
  sd_iload_n (pc := 235) (kt_tab_get kx_M_pin 132 rfl) rfl <|
  sd_iconst (pc := 236) (kt_tab_get kx_M_pin 133 rfl) kc_i_5 <|
  sd_icmp_eq (pc := 237) (tgt := 242) (kt_tab_get kx_M_pin 134 rfl) rfl kz_M_pin_242 (sd_drop (k := 3) (sd_drop (k := 2) (sd_drop (k := 1) (sd_drop (k := 0) kz_M_pin_240))))
noncomputable def kd_M_pin_230 : kt_D := ki_iload 1 <| ki_push (.int 4) <| ki_icmp_eq kd_M_pin_242 kd_M_pin_235
theorem kz_M_pin_230 : kt_Snd l kt_shM kb_M_pin 4 RX7 (some .int) 5 0 0 false false 230 kd_M_pin_230 :=
  sd_iload_n (pc := 230) (kt_tab_get kx_M_pin 129 rfl) rfl <|
  sd_iconst (pc := 231) (kt_tab_get kx_M_pin 130 rfl) kc_i_4 <|
  sd_icmp_eq (pc := 232) (tgt := 242) (kt_tab_get kx_M_pin 131 rfl) rfl kz_M_pin_242 kz_M_pin_235
noncomputable def kd_M_pin_229 : kt_D := ki_iret
theorem kz_M_pin_229 : kt_Snd l kt_shM kb_M_pin 4 RX7 (some .int) 5 0 0 false false 229 kd_M_pin_229 :=
  sd_iret (pc := 229) rfl (by decide) (kt_tab_get kx_M_pin 128 rfl)
noncomputable def kd_M_pin_228 : kt_D := ki_push (.int (-1)) <| kd_M_pin_229
theorem kz_M_pin_228 : kt_Snd l kt_shM kb_M_pin 4 RX7 (some .int) 5 0 0 false false 228 kd_M_pin_228 :=
  sd_iconst (pc := 228) (kt_tab_get kx_M_pin 127 rfl) kc_i_m1 <|
  kz_M_pin_229
noncomputable def kd_M_pin_224 : kt_D := ki_push (.int 0) <| kd_M_pin_229
theorem kz_M_pin_224 : kt_Snd l kt_shM kb_M_pin 4 RX7 (some .int) 5 0 0 false false 224 kd_M_pin_224 :=
  sd_iconst (pc := 224) (kt_tab_get kx_M_pin 125 rfl) kc_i_0 <|
  sd_goto (pc := 225) (tgt := 229) (kt_tab_get kx_M_pin 126 rfl) rfl kz_M_pin_229
noncomputable def kd_M_pin_207 : kt_D := ki_aload 0 <| ki_push (.int 0) <| ki_aload 0 <| ki_push (.int 3) <| ki_callV kt_shM 7 1 kf_M_textNumber <| ki_push (.int 8) <| ki_push (.int 0) <| ki_push (.int 0) <| ki_callV kt_shM 7 5 kf_M_put <| ki_if_eq (ki_drop 0 kd_M_pin_228) (ki_drop 0 kd_M_pin_224)
theorem kz_M_pin_207 : kt_Snd l kt_shM kb_M_pin 4 RX7 (some .int) 5 0 0 false false 207 kd_M_pin_207 :=
  sd_aload_n (pc := 207) (kt_tab_get kx_M_pin 115 rfl) rfl <|
  sd_iconst (pc := 208) (kt_tab_get kx_M_pin 116 rfl) kc_i_0 <|
  sd_aload_n (pc := 209) (kt_tab_get kx_M_pin 117 rfl) rfl <|
  sd_iconst (pc := 210) (kt_tab_get kx_M_pin 118 rfl) kc_i_3 <|
  sd_callV (pc := 211) km_M_textNumber (by decide) kv_M_textNumber (ci := 7) kt_hc7 (by decide) (kt_tab_get kx_M_pin 119 rfl) (kg_M_pin_in _ (List.mem_of_getElem? (i := 7) rfl)) <|
  sd_bipush (pc := 214) (kt_tab_get kx_M_pin 120 rfl) kc_b_8 <|
  sd_iconst (pc := 216) (kt_tab_get kx_M_pin 121 rfl) kc_i_0 <|
  sd_iconst (pc := 217) (kt_tab_get kx_M_pin 122 rfl) kc_i_0 <|
  sd_callV (pc := 218) km_M_put (by decide) kv_M_put (ci := 7) kt_hc7 (by decide) (kt_tab_get kx_M_pin 123 rfl) (kg_M_pin_in _ (List.mem_of_getElem? (i := 8) rfl)) <|
  sd_if_eq (pc := 221) (tgt := 228) (kt_tab_get kx_M_pin 124 rfl) rfl (sd_drop (k := 0) kz_M_pin_228) (sd_drop (k := 0) kz_M_pin_224)
noncomputable def kd_M_pin_202 : kt_D := ki_push (.int 6) <| kd_M_pin_229
theorem kz_M_pin_202 : kt_Snd l kt_shM kb_M_pin 4 RX7 (some .int) 5 0 0 false false 202 kd_M_pin_202 :=
  sd_bipush (pc := 202) (kt_tab_get kx_M_pin 113 rfl) kc_b_6 <|
  sd_goto (pc := 204) (tgt := 229) (kt_tab_get kx_M_pin 114 rfl) rfl kz_M_pin_229
noncomputable def kd_M_pin_194 : kt_D := ki_aload 0 <| ki_push (.int 0) <| ki_callV kt_shM 7 1 kf_M_canPut <| ki_if_ne kd_M_pin_207 (ki_drop 0 kd_M_pin_202)
theorem kz_M_pin_194 : kt_Snd l kt_shM kb_M_pin 4 RX7 (some .int) 5 0 0 false false 194 kd_M_pin_194 :=
  sd_aload_n (pc := 194) (kt_tab_get kx_M_pin 109 rfl) rfl <|
  sd_iconst (pc := 195) (kt_tab_get kx_M_pin 110 rfl) kc_i_0 <|
  sd_callV (pc := 196) km_M_canPut (by decide) kv_M_canPut (ci := 7) kt_hc7 (by decide) (kt_tab_get kx_M_pin 111 rfl) (kg_M_pin_in _ (List.mem_of_getElem? (i := 9) rfl)) <|
  sd_if_ne (pc := 199) (tgt := 207) (kt_tab_get kx_M_pin 112 rfl) rfl kz_M_pin_207 (sd_drop (k := 0) kz_M_pin_202)
noncomputable def kd_M_pin_189 : kt_D := ki_push (.int 15) <| kd_M_pin_229
theorem kz_M_pin_189 : kt_Snd l kt_shM kb_M_pin 4 RX7 (some .int) 5 0 0 false false 189 kd_M_pin_189 :=
  sd_bipush (pc := 189) (kt_tab_get kx_M_pin 107 rfl) kc_b_15 <|
  sd_goto (pc := 191) (tgt := 229) (kt_tab_get kx_M_pin 108 rfl) rfl kz_M_pin_229
noncomputable def kd_M_pin_185 : kt_D := ki_iload 3 <| ki_if_ne (ki_drop 3 kd_M_pin_194) (ki_drop 3 (ki_drop 0 kd_M_pin_189))
theorem kz_M_pin_185 : kt_Snd l kt_shM kb_M_pin 4 RX7 (some .int) 5 0 0 false false 185 kd_M_pin_185 :=
  sd_iload_n (pc := 185) (kt_tab_get kx_M_pin 105 rfl) rfl <|
  sd_if_ne (pc := 186) (tgt := 194) (kt_tab_get kx_M_pin 106 rfl) rfl (sd_drop (k := 3) kz_M_pin_194) (sd_drop (k := 3) (sd_drop (k := 0) kz_M_pin_189))
noncomputable def kd_M_pin_181 : kt_D := ki_push (.int 5) <| kd_M_pin_229
theorem kz_M_pin_181 : kt_Snd l kt_shM kb_M_pin 4 RX7 (some .int) 5 0 0 false false 181 kd_M_pin_181 :=
  sd_iconst (pc := 181) (kt_tab_get kx_M_pin 103 rfl) kc_i_5 <|
  sd_goto (pc := 182) (tgt := 229) (kt_tab_get kx_M_pin 104 rfl) rfl kz_M_pin_229
noncomputable def kd_M_pin_177 : kt_D := ki_iload 2 <| ki_if_eq (ki_drop 2 kd_M_pin_185) (ki_drop 3 (ki_drop 2 (ki_drop 0 kd_M_pin_181)))
theorem kz_M_pin_177 : kt_Snd l kt_shM kb_M_pin 4 RX7 (some .int) 5 0 0 false false 177 kd_M_pin_177 :=
  sd_iload_n (pc := 177) (kt_tab_get kx_M_pin 101 rfl) rfl <|
  sd_if_eq (pc := 178) (tgt := 185) (kt_tab_get kx_M_pin 102 rfl) rfl (sd_drop (k := 2) kz_M_pin_185) (sd_drop (k := 3) (sd_drop (k := 2) (sd_drop (k := 0) kz_M_pin_181)))
noncomputable def kd_M_pin_171 : kt_D := ki_istore 3 <| ki_iload 1 <| ki_push (.int 3) <| ki_icmp_ne kd_M_pin_230 (ki_drop 1 kd_M_pin_177)
theorem kz_M_pin_171 : kt_Snd l kt_shM kb_M_pin 4 RX7 (some .int) 5 0 0 false false 171 kd_M_pin_171 :=
  sd_istore_n (pc := 171) (kt_tab_get kx_M_pin 97 rfl) rfl (by decide) <|
  sd_iload_n (pc := 172) (kt_tab_get kx_M_pin 98 rfl) rfl <|
  sd_iconst (pc := 173) (kt_tab_get kx_M_pin 99 rfl) kc_i_3 <|
  sd_icmp_ne (pc := 174) (tgt := 230) (kt_tab_get kx_M_pin 100 rfl) rfl kz_M_pin_230 (sd_drop (k := 1) kz_M_pin_177)
noncomputable def kd_M_pin_170 : kt_D := ki_push (.int 0) <| kd_M_pin_171
theorem kz_M_pin_170 : kt_Snd l kt_shM kb_M_pin 4 RX7 (some .int) 5 0 0 false false 170 kd_M_pin_170 :=
  sd_iconst (pc := 170) (kt_tab_get kx_M_pin 96 rfl) kc_i_0 <|
  kz_M_pin_171
noncomputable def kd_M_pin_166 : kt_D := ki_push (.int 1) <| kd_M_pin_171
theorem kz_M_pin_166 : kt_Snd l kt_shM kb_M_pin 4 RX7 (some .int) 5 0 0 false false 166 kd_M_pin_166 :=
  sd_iconst (pc := 166) (kt_tab_get kx_M_pin 94 rfl) kc_i_1 <|
  sd_goto (pc := 167) (tgt := 171) (kt_tab_get kx_M_pin 95 rfl) rfl kz_M_pin_171
noncomputable def kd_M_pin_156 : kt_D := ki_aload 0 <| ki_push (.int 3) <| ki_callV kt_shM 7 1 kf_M_get <| ki_push (.int 8) <| ki_icmp_gt kd_M_pin_170 kd_M_pin_166
theorem kz_M_pin_156 : kt_Snd l kt_shM kb_M_pin 4 RX7 (some .int) 5 0 0 false false 156 kd_M_pin_156 :=
  sd_aload_n (pc := 156) (kt_tab_get kx_M_pin 89 rfl) rfl <|
  sd_iconst (pc := 157) (kt_tab_get kx_M_pin 90 rfl) kc_i_3 <|
  sd_callV (pc := 158) km_M_get (by decide) kv_M_get (ci := 7) kt_hc7 (by decide) (kt_tab_get kx_M_pin 91 rfl) (kg_M_pin_in _ (List.mem_of_getElem? (i := 10) rfl)) <|
  sd_bipush (pc := 161) (kt_tab_get kx_M_pin 92 rfl) kc_b_8 <|
  sd_icmp_gt (pc := 163) (tgt := 170) (kt_tab_get kx_M_pin 93 rfl) rfl kz_M_pin_170 kz_M_pin_166
noncomputable def kd_M_pin_147 : kt_D := ki_aload 0 <| ki_push (.int 3) <| ki_callV kt_shM 7 1 kf_M_get <| ki_push (.int 4) <| ki_icmp_lt kd_M_pin_170 kd_M_pin_156
theorem kz_M_pin_147 : kt_Snd l kt_shM kb_M_pin 4 RX7 (some .int) 5 0 0 false false 147 kd_M_pin_147 :=
  sd_aload_n (pc := 147) (kt_tab_get kx_M_pin 84 rfl) rfl <|
  sd_iconst (pc := 148) (kt_tab_get kx_M_pin 85 rfl) kc_i_3 <|
  sd_callV (pc := 149) km_M_get (by decide) kv_M_get (ci := 7) kt_hc7 (by decide) (kt_tab_get kx_M_pin 86 rfl) (kg_M_pin_in _ (List.mem_of_getElem? (i := 10) rfl)) <|
  sd_iconst (pc := 152) (kt_tab_get kx_M_pin 87 rfl) kc_i_4 <|
  sd_icmp_lt (pc := 153) (tgt := 170) (kt_tab_get kx_M_pin 88 rfl) rfl kz_M_pin_170 kz_M_pin_156
noncomputable def kd_M_pin_139 : kt_D := ki_aload 0 <| ki_push (.int 3) <| ki_callV kt_shM 7 1 kf_M_there <| ki_if_eq kd_M_pin_170 kd_M_pin_147
theorem kz_M_pin_139 : kt_Snd l kt_shM kb_M_pin 4 RX7 (some .int) 5 0 0 false false 139 kd_M_pin_139 :=
  sd_aload_n (pc := 139) (kt_tab_get kx_M_pin 80 rfl) rfl <|
  sd_iconst (pc := 140) (kt_tab_get kx_M_pin 81 rfl) kc_i_3 <|
  sd_callV (pc := 141) km_M_there (by decide) kv_M_there (ci := 7) kt_hc7 (by decide) (kt_tab_get kx_M_pin 82 rfl) (kg_M_pin_in _ (List.mem_of_getElem? (i := 11) rfl)) <|
  sd_if_eq (pc := 144) (tgt := 170) (kt_tab_get kx_M_pin 83 rfl) rfl kz_M_pin_170 kz_M_pin_147
noncomputable def kd_M_pin_134 : kt_D := ki_callV kt_shM 7 2 kf_M_pair <| ki_push (.int 0) <| ki_iret
theorem kz_M_pin_134 : kt_Snd l kt_shM kb_M_pin 4 RX7 (some .int) 5 0 0 false false 134 kd_M_pin_134 :=
  sd_callV (pc := 134) km_M_pair (by decide) kv_M_pair (ci := 7) kt_hc7 (by decide) (kt_tab_get kx_M_pin 77 rfl) (kg_M_pin_in _ (List.mem_of_getElem? (i := 12) rfl)) <|
  sd_iconst (pc := 137) (kt_tab_get kx_M_pin 78 rfl) kc_i_0 <|
  sd_iret (pc := 138) rfl (by decide) (kt_tab_get kx_M_pin 79 rfl)
noncomputable def kd_M_pin_132 : kt_D := ki_push (.int 8) <| kd_M_pin_134
theorem kz_M_pin_132 : kt_Snd l kt_shM kb_M_pin 4 RX7 (some .int) 5 0 0 false false 132 kd_M_pin_132 :=
  sd_bipush (pc := 132) (kt_tab_get kx_M_pin 76 rfl) kc_b_8 <|
  kz_M_pin_134
noncomputable def kd_M_pin_123 : kt_D := ki_aload 0 <| ki_push (.int 0) <| ki_push (.int 2) <| ki_callV kt_shM 7 2 kf_M_data <| (ki_drop 0 kd_M_pin_134)
theorem kz_M_pin_123 : kt_Snd l kt_shM kb_M_pin 4 RX7 (some .int) 5 0 0 false false 123 kd_M_pin_123 :=
  sd_aload_n (pc := 123) (kt_tab_get kx_M_pin 71 rfl) rfl <|
  sd_iconst (pc := 124) (kt_tab_get kx_M_pin 72 rfl) kc_i_0 <|
  sd_iconst (pc := 125) (kt_tab_get kx_M_pin 73 rfl) kc_i_2 <|
  sd_callV (pc := 126) km_M_data (by decide) kv_M_data (ci := 7) kt_hc7 (by decide) (kt_tab_get kx_M_pin 74 rfl) (kg_M_pin_in _ (List.mem_of_getElem? (i := 6) rfl)) <|
  sd_goto (pc := 129) (tgt := 134) (kt_tab_get kx_M_pin 75 rfl) rfl (sd_drop (k := 0) kz_M_pin_134)
noncomputable def kd_M_pin_112 : kt_D := ki_aload 0 <| ki_push (.int 1) <| ki_callV kt_shM 7 1 kf_M_begin <| ki_aload 0 <| ki_push (.int 1) <| ki_iload 2 <| ki_if_eq (ki_drop 2 (ki_drop 0 kd_M_pin_132)) (ki_drop 2 kd_M_pin_123)
theorem kz_M_pin_112 : kt_Snd l kt_shM kb_M_pin 4 RX7 (some .int) 5 0 0 false false 112 kd_M_pin_112 :=
  sd_aload_n (pc := 112) (kt_tab_get kx_M_pin 64 rfl) rfl <|
  sd_iconst (pc := 113) (kt_tab_get kx_M_pin 65 rfl) kc_i_1 <|
  sd_callV (pc := 114) km_M_begin (by decide) kv_M_begin (ci := 7) kt_hc7 (by decide) (kt_tab_get kx_M_pin 66 rfl) (kg_M_pin_in _ (List.mem_of_getElem? (i := 13) rfl)) <|
  sd_aload_n (pc := 117) (kt_tab_get kx_M_pin 67 rfl) rfl <|
  sd_iconst (pc := 118) (kt_tab_get kx_M_pin 68 rfl) kc_i_1 <|
  sd_iload_n (pc := 119) (kt_tab_get kx_M_pin 69 rfl) rfl <|
  sd_if_eq (pc := 120) (tgt := 132) (kt_tab_get kx_M_pin 70 rfl) rfl (sd_drop (k := 2) (sd_drop (k := 0) kz_M_pin_132)) (sd_drop (k := 2) kz_M_pin_123)
noncomputable def kd_M_pin_106 : kt_D := ki_istore 2 <| ki_iload 1 <| ki_push (.int 1) <| ki_icmp_ne kd_M_pin_139 (ki_drop 1 kd_M_pin_112)
theorem kz_M_pin_106 : kt_Snd l kt_shM kb_M_pin 4 RX7 (some .int) 5 0 0 false false 106 kd_M_pin_106 :=
  sd_istore_n (pc := 106) (kt_tab_get kx_M_pin 60 rfl) rfl (by decide) <|
  sd_iload_n (pc := 107) (kt_tab_get kx_M_pin 61 rfl) rfl <|
  sd_iconst (pc := 108) (kt_tab_get kx_M_pin 62 rfl) kc_i_1 <|
  sd_icmp_ne (pc := 109) (tgt := 139) (kt_tab_get kx_M_pin 63 rfl) rfl kz_M_pin_139 (sd_drop (k := 1) kz_M_pin_112)
noncomputable def kd_M_pin_105 : kt_D := ki_push (.int 0) <| kd_M_pin_106
theorem kz_M_pin_105 : kt_Snd l kt_shM kb_M_pin 4 RX7 (some .int) 5 0 0 false false 105 kd_M_pin_105 :=
  sd_iconst (pc := 105) (kt_tab_get kx_M_pin 59 rfl) kc_i_0 <|
  kz_M_pin_106
noncomputable def kd_M_pin_101 : kt_D := ki_push (.int 1) <| kd_M_pin_106
theorem kz_M_pin_101 : kt_Snd l kt_shM kb_M_pin 4 RX7 (some .int) 5 0 0 false false 101 kd_M_pin_101 :=
  sd_iconst (pc := 101) (kt_tab_get kx_M_pin 57 rfl) kc_i_1 <|
  sd_goto (pc := 102) (tgt := 106) (kt_tab_get kx_M_pin 58 rfl) rfl kz_M_pin_106
noncomputable def kd_M_pin_93 : kt_D := ki_aload 0 <| ki_push (.int 0) <| ki_callV kt_shM 7 1 kf_M_page <| ki_if_lt kd_M_pin_105 kd_M_pin_101
theorem kz_M_pin_93 : kt_Snd l kt_shM kb_M_pin 4 RX7 (some .int) 5 0 0 false false 93 kd_M_pin_93 :=
  sd_aload_n (pc := 93) (kt_tab_get kx_M_pin 53 rfl) rfl <|
  sd_iconst (pc := 94) (kt_tab_get kx_M_pin 54 rfl) kc_i_0 <|
  sd_callV (pc := 95) km_M_page (by decide) kv_M_page (ci := 7) kt_hc7 (by decide) (kt_tab_get kx_M_pin 55 rfl) (kg_M_pin_in _ (List.mem_of_getElem? (i := 14) rfl)) <|
  sd_if_lt (pc := 98) (tgt := 105) (kt_tab_get kx_M_pin 56 rfl) rfl kz_M_pin_105 kz_M_pin_101
noncomputable def kd_M_pin_83 : kt_D := ki_aload 0 <| ki_push (.int 3) <| ki_callV kt_shM 7 1 kf_M_there <| ki_if_ne kd_M_pin_93 (ki_drop 1 (ki_drop 0 kd_M_pin_91))
theorem kz_M_pin_83 : kt_Snd l kt_shM kb_M_pin 4 RX7 (some .int) 5 0 0 false false 83 kd_M_pin_83 :=
  sd_aload_n (pc := 83) (kt_tab_get kx_M_pin 47 rfl) rfl <|
  sd_iconst (pc := 84) (kt_tab_get kx_M_pin 48 rfl) kc_i_3 <|
  sd_callV (pc := 85) km_M_there (by decide) kv_M_there (ci := 7) kt_hc7 (by decide) (kt_tab_get kx_M_pin 49 rfl) (kg_M_pin_in _ (List.mem_of_getElem? (i := 11) rfl)) <|
  sd_if_ne (pc := 88) (tgt := 93) (kt_tab_get kx_M_pin 50 rfl) rfl kz_M_pin_93 (sd_drop (k := 1) (sd_drop (k := 0) kz_M_pin_91))
noncomputable def kd_M_pin_78 : kt_D := ki_iload 1 <| ki_push (.int 4) <| ki_icmp_ne kd_M_pin_93 kd_M_pin_83
theorem kz_M_pin_78 : kt_Snd l kt_shM kb_M_pin 4 RX7 (some .int) 5 0 0 false false 78 kd_M_pin_78 :=
  sd_iload_n (pc := 78) (kt_tab_get kx_M_pin 44 rfl) rfl <|
  sd_iconst (pc := 79) (kt_tab_get kx_M_pin 45 rfl) kc_i_4 <|
  sd_icmp_ne (pc := 80) (tgt := 93) (kt_tab_get kx_M_pin 46 rfl) rfl kz_M_pin_93 kz_M_pin_83
noncomputable def kd_M_pin_73 : kt_D := ki_iload 1 <| ki_push (.int 3) <| ki_icmp_eq kd_M_pin_83 kd_M_pin_78
theorem kz_M_pin_73 : kt_Snd l kt_shM kb_M_pin 4 RX7 (some .int) 5 0 0 false false 73 kd_M_pin_73 :=
  sd_iload_n (pc := 73) (kt_tab_get kx_M_pin 41 rfl) rfl <|
  sd_iconst (pc := 74) (kt_tab_get kx_M_pin 42 rfl) kc_i_3 <|
  sd_icmp_eq (pc := 75) (tgt := 83) (kt_tab_get kx_M_pin 43 rfl) rfl kz_M_pin_83 kz_M_pin_78
noncomputable def kd_M_pin_65 : kt_D := ki_aload 0 <| ki_push (.int 2) <| ki_callV kt_shM 7 1 kf_M_there <| ki_if_eq (ki_drop 1 (ki_drop 0 kd_M_pin_91)) kd_M_pin_73
theorem kz_M_pin_65 : kt_Snd l kt_shM kb_M_pin 4 RX7 (some .int) 5 0 0 false false 65 kd_M_pin_65 :=
  sd_aload_n (pc := 65) (kt_tab_get kx_M_pin 37 rfl) rfl <|
  sd_iconst (pc := 66) (kt_tab_get kx_M_pin 38 rfl) kc_i_2 <|
  sd_callV (pc := 67) km_M_there (by decide) kv_M_there (ci := 7) kt_hc7 (by decide) (kt_tab_get kx_M_pin 39 rfl) (kg_M_pin_in _ (List.mem_of_getElem? (i := 11) rfl)) <|
  sd_if_eq (pc := 70) (tgt := 91) (kt_tab_get kx_M_pin 40 rfl) rfl (sd_drop (k := 1) (sd_drop (k := 0) kz_M_pin_91)) kz_M_pin_73
noncomputable def kd_M_pin_60 : kt_D := ki_iload 1 <| ki_push (.int 5) <| ki_icmp_ne kd_M_pin_73 kd_M_pin_65
theorem kz_M_pin_60 : kt_Snd l kt_shM kb_M_pin 4 RX7 (some .int) 5 0 0 false false 60 kd_M_pin_60 :=
  sd_iload_n (pc := 60) (kt_tab_get kx_M_pin 34 rfl) rfl <|
  sd_iconst (pc := 61) (kt_tab_get kx_M_pin 35 rfl) kc_i_5 <|
  sd_icmp_ne (pc := 62) (tgt := 73) (kt_tab_get kx_M_pin 36 rfl) rfl kz_M_pin_73 kz_M_pin_65
noncomputable def kd_M_pin_55 : kt_D := ki_iload 1 <| ki_push (.int 4) <| ki_icmp_eq kd_M_pin_65 kd_M_pin_60
theorem kz_M_pin_55 : kt_Snd l kt_shM kb_M_pin 4 RX7 (some .int) 5 0 0 false false 55 kd_M_pin_55 :=
  sd_iload_n (pc := 55) (kt_tab_get kx_M_pin 31 rfl) rfl <|
  sd_iconst (pc := 56) (kt_tab_get kx_M_pin 32 rfl) kc_i_4 <|
  sd_icmp_eq (pc := 57) (tgt := 65) (kt_tab_get kx_M_pin 33 rfl) rfl kz_M_pin_65 kz_M_pin_60
noncomputable def kd_M_pin_46 : kt_D := ki_istore 1 <| ki_aload 0 <| ki_push (.int 1) <| ki_callV kt_shM 7 1 kf_M_there <| ki_if_eq (ki_drop 1 (ki_drop 0 kd_M_pin_91)) kd_M_pin_55
theorem kz_M_pin_46 : kt_Snd l kt_shM kb_M_pin 4 RX7 (some .int) 5 0 0 false false 46 kd_M_pin_46 :=
  sd_istore_n (pc := 46) (kt_tab_get kx_M_pin 26 rfl) rfl (by decide) <|
  sd_aload_n (pc := 47) (kt_tab_get kx_M_pin 27 rfl) rfl <|
  sd_iconst (pc := 48) (kt_tab_get kx_M_pin 28 rfl) kc_i_1 <|
  sd_callV (pc := 49) km_M_there (by decide) kv_M_there (ci := 7) kt_hc7 (by decide) (kt_tab_get kx_M_pin 29 rfl) (kg_M_pin_in _ (List.mem_of_getElem? (i := 11) rfl)) <|
  sd_if_eq (pc := 52) (tgt := 91) (kt_tab_get kx_M_pin 30 rfl) rfl (sd_drop (k := 1) (sd_drop (k := 0) kz_M_pin_91)) kz_M_pin_55
noncomputable def kd_M_pin_45 : kt_D := ki_push (.int 0) <| kd_M_pin_46
theorem kz_M_pin_45 : kt_Snd l kt_shM kb_M_pin 4 RX7 (some .int) 5 0 0 false false 45 kd_M_pin_45 :=
  sd_iconst (pc := 45) (kt_tab_get kx_M_pin 25 rfl) kc_i_0 <|
  kz_M_pin_46
noncomputable def kd_M_pin_37 : kt_D := ki_aload 0 <| ki_push (.int 1) <| ki_callV kt_shM 7 1 kf_M_get <| kd_M_pin_46
theorem kz_M_pin_37 : kt_Snd l kt_shM kb_M_pin 4 RX7 (some .int) 5 0 0 false false 37 kd_M_pin_37 :=
  sd_aload_n (pc := 37) (kt_tab_get kx_M_pin 21 rfl) rfl <|
  sd_iconst (pc := 38) (kt_tab_get kx_M_pin 22 rfl) kc_i_1 <|
  sd_callV (pc := 39) km_M_get (by decide) kv_M_get (ci := 7) kt_hc7 (by decide) (kt_tab_get kx_M_pin 23 rfl) (kg_M_pin_in _ (List.mem_of_getElem? (i := 10) rfl)) <|
  sd_goto (pc := 42) (tgt := 46) (kt_tab_get kx_M_pin 24 rfl) rfl kz_M_pin_46
noncomputable def kd_M_pin_29 : kt_D := ki_aload 0 <| ki_push (.int 1) <| ki_callV kt_shM 7 1 kf_M_there <| ki_if_eq kd_M_pin_45 kd_M_pin_37
theorem kz_M_pin_29 : kt_Snd l kt_shM kb_M_pin 4 RX7 (some .int) 5 0 0 false false 29 kd_M_pin_29 :=
  sd_aload_n (pc := 29) (kt_tab_get kx_M_pin 17 rfl) rfl <|
  sd_iconst (pc := 30) (kt_tab_get kx_M_pin 18 rfl) kc_i_1 <|
  sd_callV (pc := 31) km_M_there (by decide) kv_M_there (ci := 7) kt_hc7 (by decide) (kt_tab_get kx_M_pin 19 rfl) (kg_M_pin_in _ (List.mem_of_getElem? (i := 11) rfl)) <|
  sd_if_eq (pc := 34) (tgt := 45) (kt_tab_get kx_M_pin 20 rfl) rfl kz_M_pin_45 kz_M_pin_37
noncomputable def kd_M_pin_18 : kt_D := ki_aload 0 <| ki_push (.int 3) <| ki_push (.int 3) <| ki_callV kt_shM 7 2 kf_M_is <| ki_if_ne kd_M_pin_29 (ki_drop 0 kd_M_pin_27)
theorem kz_M_pin_18 : kt_Snd l kt_shM kb_M_pin 4 RX7 (some .int) 5 0 0 false false 18 kd_M_pin_18 :=
  sd_aload_n (pc := 18) (kt_tab_get kx_M_pin 10 rfl) rfl <|
  sd_iconst (pc := 19) (kt_tab_get kx_M_pin 11 rfl) kc_i_3 <|
  sd_iconst (pc := 20) (kt_tab_get kx_M_pin 12 rfl) kc_i_3 <|
  sd_callV (pc := 21) km_M_is (by decide) kv_M_is (ci := 7) kt_hc7 (by decide) (kt_tab_get kx_M_pin 13 rfl) (kg_M_pin_in _ (List.mem_of_getElem? (i := 15) rfl)) <|
  sd_if_ne (pc := 24) (tgt := 29) (kt_tab_get kx_M_pin 14 rfl) rfl kz_M_pin_29 (sd_drop (k := 0) kz_M_pin_27)
noncomputable def kd_M_pin_9 : kt_D := ki_aload 0 <| ki_push (.int 2) <| ki_push (.int 3) <| ki_callV kt_shM 7 2 kf_M_is <| ki_if_eq (ki_drop 0 kd_M_pin_27) kd_M_pin_18
theorem kz_M_pin_9 : kt_Snd l kt_shM kb_M_pin 4 RX7 (some .int) 5 0 0 false false 9 kd_M_pin_9 :=
  sd_aload_n (pc := 9) (kt_tab_get kx_M_pin 5 rfl) rfl <|
  sd_iconst (pc := 10) (kt_tab_get kx_M_pin 6 rfl) kc_i_2 <|
  sd_iconst (pc := 11) (kt_tab_get kx_M_pin 7 rfl) kc_i_3 <|
  sd_callV (pc := 12) km_M_is (by decide) kv_M_is (ci := 7) kt_hc7 (by decide) (kt_tab_get kx_M_pin 8 rfl) (kg_M_pin_in _ (List.mem_of_getElem? (i := 15) rfl)) <|
  sd_if_eq (pc := 15) (tgt := 27) (kt_tab_get kx_M_pin 9 rfl) rfl (sd_drop (k := 0) kz_M_pin_27) kz_M_pin_18
noncomputable def kd_M_pin_0 : kt_D := ki_aload 0 <| ki_push (.int 1) <| ki_push (.int 0) <| ki_callV kt_shM 7 2 kf_M_is <| ki_if_eq (ki_drop 0 kd_M_pin_27) kd_M_pin_9
theorem kz_M_pin_0 : kt_Snd l kt_shM kb_M_pin 4 RX7 (some .int) 5 0 0 false false 0 kd_M_pin_0 :=
  sd_aload_n (pc := 0) (kt_tab_get kx_M_pin 0 rfl) rfl <|
  sd_iconst (pc := 1) (kt_tab_get kx_M_pin 1 rfl) kc_i_1 <|
  sd_iconst (pc := 2) (kt_tab_get kx_M_pin 2 rfl) kc_i_0 <|
  sd_callV (pc := 3) km_M_is (by decide) kv_M_is (ci := 7) kt_hc7 (by decide) (kt_tab_get kx_M_pin 3 rfl) (kg_M_pin_in _ (List.mem_of_getElem? (i := 15) rfl)) <|
  sd_if_eq (pc := 6) (tgt := 27) (kt_tab_get kx_M_pin 4 rfl) rfl (sd_drop (k := 0) kz_M_pin_27) kz_M_pin_9
noncomputable def kf_M_pin : kt_F := kt_run 4 kd_M_pin_0
theorem km_M_pin : kt_M l kt_shM ky_M_pin kb_M_pin 4 (some .int) 5 false kf_M_pin := kt_method (by decide) rfl kz_M_pin_0
noncomputable def kd_M_info_66 : kt_D := ki_callV kt_shM 7 1 kf_M_out <| ki_aload 0 <| ki_push (.int 3) <| ki_aload 0 <| ki_callV kt_shM 7 0 kf_M_erasedPages <| ki_callV kt_shM 7 2 kf_M_pair <| ki_push (.int 0) <| ki_iret
theorem kz_M_info_66 : kt_Snd l kt_shM kb_M_info 3 RX7 (some .int) 3 0 0 false false 66 kd_M_info_66 :=
  sd_callV (pc := 66) km_M_out (by decide) kv_M_out (ci := 7) kt_hc7 (by decide) (kt_tab_get kx_M_info 37 rfl) (kg_M_info_in _ (List.mem_of_getElem? (i := 4) rfl)) <|
  sd_aload_n (pc := 69) (kt_tab_get kx_M_info 38 rfl) rfl <|
  sd_iconst (pc := 70) (kt_tab_get kx_M_info 39 rfl) kc_i_3 <|
  sd_aload_n (pc := 71) (kt_tab_get kx_M_info 40 rfl) rfl <|
  sd_callV (pc := 72) km_M_erasedPages (by decide) kv_M_erasedPages (ci := 7) kt_hc7 (by decide) (kt_tab_get kx_M_info 41 rfl) (kg_M_info_in _ (List.mem_of_getElem? (i := 5) rfl)) <|
  sd_callV (pc := 75) km_M_pair (by decide) kv_M_pair (ci := 7) kt_hc7 (by decide) (kt_tab_get kx_M_info 42 rfl) (kg_M_info_in _ (List.mem_of_getElem? (i := 6) rfl)) <|
  sd_iconst (pc := 78) (kt_tab_get kx_M_info 43 rfl) kc_i_0 <|
  sd_iret (pc := 79) rfl (by decide) (kt_tab_get kx_M_info 44 rfl)
noncomputable def kd_M_info_63 : kt_D := ki_push (.int 244) <| kd_M_info_66
theorem kz_M_info_63 : kt_Snd l kt_shM kb_M_info 3 RX7 (some .int) 3 0 0 false false 63 kd_M_info_63 :=
  sd_sipush (pc := 63) (kt_tab_get kx_M_info 36 rfl) kc_s_244 <|
  kz_M_info_66
noncomputable def kd_M_info_57 : kt_D := ki_push (.int 245) <| kd_M_info_66
theorem kz_M_info_57 : kt_Snd l kt_shM kb_M_info 3 RX7 (some .int) 3 0 0 false false 57 kd_M_info_57 :=
  sd_sipush (pc := 57) (kt_tab_get kx_M_info 34 rfl) kc_s_245 <|
  sd_goto (pc := 60) (tgt := 66) (kt_tab_get kx_M_info 35 rfl) rfl kz_M_info_66
noncomputable def kd_M_info_32 : kt_D := ki_aload 0 <| ki_push (.int 3) <| ki_callV kt_shM 7 1 kf_M_begin <| ki_aload 0 <| ki_push (.int 1) <| ki_iload 1 <| ki_callV kt_shM 7 2 kf_M_pair <| ki_aload 0 <| ki_push (.int 2) <| ki_callV kt_shM 7 1 kf_M_out <| ki_aload 0 <| ki_aload 0 <| ki_push (.int 0) <| ki_callV kt_shM 7 1 kf_M_page <| ki_if_lt (ki_drop 1 kd_M_info_63) (ki_drop 1 kd_M_info_57)
theorem kz_M_info_32 : kt_Snd l kt_shM kb_M_info 3 RX7 (some .int) 3 0 0 false false 32 kd_M_info_32 :=
  sd_aload_n (pc := 32) (kt_tab_get kx_M_info 19 rfl) rfl <|
  sd_iconst (pc := 33) (kt_tab_get kx_M_info 20 rfl) kc_i_3 <|
  sd_callV (pc := 34) km_M_begin (by decide) kv_M_begin (ci := 7) kt_hc7 (by decide) (kt_tab_get kx_M_info 21 rfl) (kg_M_info_in _ (List.mem_of_getElem? (i := 7) rfl)) <|
  sd_aload_n (pc := 37) (kt_tab_get kx_M_info 22 rfl) rfl <|
  sd_iconst (pc := 38) (kt_tab_get kx_M_info 23 rfl) kc_i_1 <|
  sd_iload_n (pc := 39) (kt_tab_get kx_M_info 24 rfl) rfl <|
  sd_callV (pc := 40) km_M_pair (by decide) kv_M_pair (ci := 7) kt_hc7 (by decide) (kt_tab_get kx_M_info 25 rfl) (kg_M_info_in _ (List.mem_of_getElem? (i := 6) rfl)) <|
  sd_aload_n (pc := 43) (kt_tab_get kx_M_info 26 rfl) rfl <|
  sd_iconst (pc := 44) (kt_tab_get kx_M_info 27 rfl) kc_i_2 <|
  sd_callV (pc := 45) km_M_out (by decide) kv_M_out (ci := 7) kt_hc7 (by decide) (kt_tab_get kx_M_info 28 rfl) (kg_M_info_in _ (List.mem_of_getElem? (i := 4) rfl)) <|
  sd_aload_n (pc := 48) (kt_tab_get kx_M_info 29 rfl) rfl <|
  sd_aload_n (pc := 49) (kt_tab_get kx_M_info 30 rfl) rfl <|
  sd_iconst (pc := 50) (kt_tab_get kx_M_info 31 rfl) kc_i_0 <|
  sd_callV (pc := 51) km_M_page (by decide) kv_M_page (ci := 7) kt_hc7 (by decide) (kt_tab_get kx_M_info 32 rfl) (kg_M_info_in _ (List.mem_of_getElem? (i := 8) rfl)) <|
  sd_if_lt (pc := 54) (tgt := 63) (kt_tab_get kx_M_info 33 rfl) rfl (sd_drop (k := 1) kz_M_info_63) (sd_drop (k := 1) kz_M_info_57)
noncomputable def kd_M_info_25 (kh_4 : kt_D) : kt_D := ki_istore 1 <| ki_iinc 2 1 <| kh_4
theorem kz_M_info_25 {kh_4 : kt_D} (zh_4 : kt_Snd l kt_shM kb_M_info 3 RX7 (some .int) 3 0 0 false false 4 kh_4) : kt_Snd l kt_shM kb_M_info 3 RX7 (some .int) 3 0 0 false false 25 (kd_M_info_25 kh_4) :=
  sd_istore_n (pc := 25) (kt_tab_get kx_M_info 16 rfl) rfl (by decide) <|
  sd_iinc (pc := 26) (kt_tab_get kx_M_info 17 rfl) kc_i_1 (by decide) <|
  sd_goto (pc := 29) (tgt := 4) (kt_tab_get kx_M_info 18 rfl) rfl zh_4
noncomputable def kd_M_info_24 (kh_4 : kt_D) : kt_D := ki_iload 1 <| (ki_drop 1 (kd_M_info_25 kh_4))
theorem kz_M_info_24 {kh_4 : kt_D} (zh_4 : kt_Snd l kt_shM kb_M_info 3 RX7 (some .int) 3 0 0 false false 4 kh_4) : kt_Snd l kt_shM kb_M_info 3 RX7 (some .int) 3 0 0 false false 24 (kd_M_info_24 kh_4) :=
  sd_iload_n (pc := 24) (kt_tab_get kx_M_info 15 rfl) rfl <|
  (sd_drop (k := 1) (kz_M_info_25 zh_4))
noncomputable def kd_M_info_18 (kh_4 : kt_D) : kt_D := ki_iload 1 <| ki_push (.int 1) <| ki_iadd <| (ki_drop 1 (kd_M_info_25 kh_4))
theorem kz_M_info_18 {kh_4 : kt_D} (zh_4 : kt_Snd l kt_shM kb_M_info 3 RX7 (some .int) 3 0 0 false false 4 kh_4) : kt_Snd l kt_shM kb_M_info 3 RX7 (some .int) 3 0 0 false false 18 (kd_M_info_18 kh_4) :=
  sd_iload_n (pc := 18) (kt_tab_get kx_M_info 11 rfl) rfl <|
  sd_iconst (pc := 19) (kt_tab_get kx_M_info 12 rfl) kc_i_1 <|
  sd_iadd (pc := 20) (kt_tab_get kx_M_info 13 rfl) <|
  sd_goto (pc := 21) (tgt := 25) (kt_tab_get kx_M_info 14 rfl) rfl (sd_drop (k := 1) (kz_M_info_25 zh_4))
noncomputable def kd_M_info_10 (kh_4 : kt_D) : kt_D := ki_aload 0 <| ki_iload 2 <| ki_callV kt_shM 7 1 kf_M_page <| ki_if_lt (kd_M_info_24 kh_4) (kd_M_info_18 kh_4)
theorem kz_M_info_10 {kh_4 : kt_D} (zh_4 : kt_Snd l kt_shM kb_M_info 3 RX7 (some .int) 3 0 0 false false 4 kh_4) : kt_Snd l kt_shM kb_M_info 3 RX7 (some .int) 3 0 0 false false 10 (kd_M_info_10 kh_4) :=
  sd_aload_n (pc := 10) (kt_tab_get kx_M_info 7 rfl) rfl <|
  sd_iload_n (pc := 11) (kt_tab_get kx_M_info 8 rfl) rfl <|
  sd_callV (pc := 12) km_M_page (by decide) kv_M_page (ci := 7) kt_hc7 (by decide) (kt_tab_get kx_M_info 9 rfl) (kg_M_info_in _ (List.mem_of_getElem? (i := 8) rfl)) <|
  sd_if_lt (pc := 15) (tgt := 24) (kt_tab_get kx_M_info 10 rfl) rfl (kz_M_info_24 zh_4) (kz_M_info_18 zh_4)
noncomputable def kd_M_info_4b (kh_4 : kt_D) : kt_D := ki_iload 2 <| ki_push (.int 7) <| ki_icmp_ge (ki_drop 2 kd_M_info_32) (kd_M_info_10 kh_4)
theorem kz_M_info_4b {kh_4 : kt_D} (zh_4 : kt_Snd l kt_shM kb_M_info 3 RX7 (some .int) 3 0 0 false false 4 kh_4) : kt_Snd l kt_shM kb_M_info 3 RX7 (some .int) 3 0 0 false false 4 (kd_M_info_4b kh_4) :=
  sd_iload_n (pc := 4) (kt_tab_get kx_M_info 4 rfl) rfl <|
  sd_bipush (pc := 5) (kt_tab_get kx_M_info 5 rfl) kc_b_7 <|
  sd_icmp_ge (pc := 7) (tgt := 32) (kt_tab_get kx_M_info 6 rfl) rfl (sd_drop (k := 2) kz_M_info_32) (kz_M_info_10 zh_4)
noncomputable def kd_M_info_4 (n : Nat) : kt_D := Nat.rec (fun _ _ _ => none) (fun _ ih => kd_M_info_4b ih) n
theorem kz_M_info_4 (n : Nat) : kt_Snd l kt_shM kb_M_info 3 RX7 (some .int) 3 0 0 false false 4 (kd_M_info_4 n) := by
  induction n with
  | zero => exact sd_fail
  | succ n ih => exact kz_M_info_4b ih
noncomputable def kd_M_info_0 : kt_D := ki_push (.int 0) <| ki_istore 1 <| ki_push (.int 1) <| ki_istore 2 <| (kd_M_info_4 100)
theorem kz_M_info_0 : kt_Snd l kt_shM kb_M_info 3 RX7 (some .int) 3 0 0 false false 0 kd_M_info_0 :=
  sd_iconst (pc := 0) (kt_tab_get kx_M_info 0 rfl) kc_i_0 <|
  sd_istore_n (pc := 1) (kt_tab_get kx_M_info 1 rfl) rfl (by decide) <|
  sd_iconst (pc := 2) (kt_tab_get kx_M_info 2 rfl) kc_i_1 <|
  sd_istore_n (pc := 3) (kt_tab_get kx_M_info 3 rfl) rfl (by decide) <|
  (kz_M_info_4 100)
noncomputable def kf_M_info : kt_F := kt_run 3 kd_M_info_0
theorem km_M_info : kt_M l kt_shM ky_M_info kb_M_info 3 (some .int) 3 false kf_M_info := kt_method (by decide) rfl kz_M_info_0
noncomputable def kd_M_reset_51 : kt_D := ki_aload 0 <| ki_push (.int 0) <| ki_put kt_shM 7 8 0 <| ki_aload 0 <| ki_push (.int 0) <| ki_put kt_shM 7 7 0 <| ki_push (.int 0) <| ki_iret
theorem kz_M_reset_51 : kt_Snd l kt_shM kb_M_reset 2 RX7 (some .int) 3 0 0 false false 51 kd_M_reset_51 :=
  sd_aload_n (pc := 51) (kt_tab_get kx_M_reset 27 rfl) rfl <|
  sd_iconst (pc := 52) (kt_tab_get kx_M_reset 28 rfl) kc_i_0 <|
  sd_put (pc := 53) (k := 8) (ci := 7) kt_hc7 kt_hin7 tyX7_ok nmX7 (by decide) rfl rfl (Or.inl ⟨rfl, rfl⟩) (kt_tab_get kx_M_reset 29 rfl) (kg_M_reset_in _ (List.mem_of_getElem? (i := 4) rfl)) <|
  sd_aload_n (pc := 56) (kt_tab_get kx_M_reset 30 rfl) rfl <|
  sd_iconst (pc := 57) (kt_tab_get kx_M_reset 31 rfl) kc_i_0 <|
  sd_put (pc := 58) (k := 7) (ci := 7) kt_hc7 kt_hin7 tyX7_ok nmX7 (by decide) rfl rfl (Or.inl ⟨rfl, rfl⟩) (kt_tab_get kx_M_reset 32 rfl) (kg_M_reset_in _ (List.mem_of_getElem? (i := 5) rfl)) <|
  sd_iconst (pc := 61) (kt_tab_get kx_M_reset 33 rfl) kc_i_0 <|
  sd_iret (pc := 62) rfl (by decide) (kt_tab_get kx_M_reset 34 rfl)
noncomputable def kd_M_reset_45 (kh_17 : kt_D) : kt_D := ki_iinc 1 1 <| kh_17
theorem kz_M_reset_45 {kh_17 : kt_D} (zh_17 : kt_Snd l kt_shM kb_M_reset 2 RX7 (some .int) 3 0 0 false false 17 kh_17) : kt_Snd l kt_shM kb_M_reset 2 RX7 (some .int) 3 0 0 false false 45 (kd_M_reset_45 kh_17) :=
  sd_iinc (pc := 45) (kt_tab_get kx_M_reset 25 rfl) kc_i_1 (by decide) <|
  sd_goto (pc := 48) (tgt := 17) (kt_tab_get kx_M_reset 26 rfl) rfl zh_17
noncomputable def kd_M_reset_40 (kh_17 : kt_D) : kt_D := ki_aload 0 <| ki_iload 1 <| ki_callV kt_shM 7 1 kf_M_erase <| (kd_M_reset_45 kh_17)
theorem kz_M_reset_40 {kh_17 : kt_D} (zh_17 : kt_Snd l kt_shM kb_M_reset 2 RX7 (some .int) 3 0 0 false false 17 kh_17) : kt_Snd l kt_shM kb_M_reset 2 RX7 (some .int) 3 0 0 false false 40 (kd_M_reset_40 kh_17) :=
  sd_aload_n (pc := 40) (kt_tab_get kx_M_reset 22 rfl) rfl <|
  sd_iload_n (pc := 41) (kt_tab_get kx_M_reset 23 rfl) rfl <|
  sd_callV (pc := 42) km_M_erase (by decide) kv_M_erase (ci := 7) kt_hc7 (by decide) (kt_tab_get kx_M_reset 24 rfl) (kg_M_reset_in _ (List.mem_of_getElem? (i := 6) rfl)) <|
  (kz_M_reset_45 zh_17)
noncomputable def kd_M_reset_38 : kt_D := ki_push (.int (-1)) <| ki_iret
theorem kz_M_reset_38 : kt_Snd l kt_shM kb_M_reset 2 RX7 (some .int) 3 0 0 false false 38 kd_M_reset_38 :=
  sd_iconst (pc := 38) (kt_tab_get kx_M_reset 20 rfl) kc_i_m1 <|
  sd_iret (pc := 39) rfl (by decide) (kt_tab_get kx_M_reset 21 rfl)
noncomputable def kd_M_reset_31 (kh_17 : kt_D) : kt_D := ki_aload 0 <| ki_callV kt_shM 7 0 kf_M_mayWrite <| ki_if_ne (kd_M_reset_40 kh_17) (ki_drop 1 (ki_drop 0 kd_M_reset_38))
theorem kz_M_reset_31 {kh_17 : kt_D} (zh_17 : kt_Snd l kt_shM kb_M_reset 2 RX7 (some .int) 3 0 0 false false 17 kh_17) : kt_Snd l kt_shM kb_M_reset 2 RX7 (some .int) 3 0 0 false false 31 (kd_M_reset_31 kh_17) :=
  sd_aload_n (pc := 31) (kt_tab_get kx_M_reset 17 rfl) rfl <|
  sd_callV (pc := 32) km_M_mayWrite (by decide) kv_M_mayWrite (ci := 7) kt_hc7 (by decide) (kt_tab_get kx_M_reset 18 rfl) (kg_M_reset_in _ (List.mem_of_getElem? (i := 7) rfl)) <|
  sd_if_ne (pc := 35) (tgt := 40) (kt_tab_get kx_M_reset 19 rfl) rfl (kz_M_reset_40 zh_17) (sd_drop (k := 1) (sd_drop (k := 0) kz_M_reset_38))
noncomputable def kd_M_reset_23 (kh_17 : kt_D) : kt_D := ki_aload 0 <| ki_iload 1 <| ki_callV kt_shM 7 1 kf_M_erased <| ki_if_ne (kd_M_reset_45 kh_17) (kd_M_reset_31 kh_17)
theorem kz_M_reset_23 {kh_17 : kt_D} (zh_17 : kt_Snd l kt_shM kb_M_reset 2 RX7 (some .int) 3 0 0 false false 17 kh_17) : kt_Snd l kt_shM kb_M_reset 2 RX7 (some .int) 3 0 0 false false 23 (kd_M_reset_23 kh_17) :=
  sd_aload_n (pc := 23) (kt_tab_get kx_M_reset 13 rfl) rfl <|
  sd_iload_n (pc := 24) (kt_tab_get kx_M_reset 14 rfl) rfl <|
  sd_callV (pc := 25) km_M_erased (by decide) kv_M_erased (ci := 7) kt_hc7 (by decide) (kt_tab_get kx_M_reset 15 rfl) (kg_M_reset_in _ (List.mem_of_getElem? (i := 8) rfl)) <|
  sd_if_ne (pc := 28) (tgt := 45) (kt_tab_get kx_M_reset 16 rfl) rfl (kz_M_reset_45 zh_17) (kz_M_reset_31 zh_17)
noncomputable def kd_M_reset_17b (kh_17 : kt_D) : kt_D := ki_iload 1 <| ki_push (.int 7) <| ki_icmp_ge (ki_drop 1 kd_M_reset_51) (kd_M_reset_23 kh_17)
theorem kz_M_reset_17b {kh_17 : kt_D} (zh_17 : kt_Snd l kt_shM kb_M_reset 2 RX7 (some .int) 3 0 0 false false 17 kh_17) : kt_Snd l kt_shM kb_M_reset 2 RX7 (some .int) 3 0 0 false false 17 (kd_M_reset_17b kh_17) :=
  sd_iload_n (pc := 17) (kt_tab_get kx_M_reset 10 rfl) rfl <|
  sd_bipush (pc := 18) (kt_tab_get kx_M_reset 11 rfl) kc_b_7 <|
  sd_icmp_ge (pc := 20) (tgt := 51) (kt_tab_get kx_M_reset 12 rfl) rfl (sd_drop (k := 1) kz_M_reset_51) (kz_M_reset_23 zh_17)
noncomputable def kd_M_reset_17 (n : Nat) : kt_D := Nat.rec (fun _ _ _ => none) (fun _ ih => kd_M_reset_17b ih) n
theorem kz_M_reset_17 (n : Nat) : kt_Snd l kt_shM kb_M_reset 2 RX7 (some .int) 3 0 0 false false 17 (kd_M_reset_17 n) := by
  induction n with
  | zero => exact sd_fail
  | succ n ih => exact kz_M_reset_17b ih
noncomputable def kd_M_reset_10 : kt_D := ki_aload 0 <| ki_push (.int 0) <| ki_put kt_shM 7 6 1 <| ki_push (.int 0) <| ki_istore 1 <| (kd_M_reset_17 100)
theorem kz_M_reset_10 : kt_Snd l kt_shM kb_M_reset 2 RX7 (some .int) 3 0 0 false false 10 kd_M_reset_10 :=
  sd_aload_n (pc := 10) (kt_tab_get kx_M_reset 5 rfl) rfl <|
  sd_iconst (pc := 11) (kt_tab_get kx_M_reset 6 rfl) kc_i_0 <|
  sd_put (pc := 12) (k := 6) (ci := 7) kt_hc7 kt_hin7 tyX7_ok nmX7 (by decide) rfl rfl (Or.inr ⟨rfl, rfl⟩) (kt_tab_get kx_M_reset 7 rfl) (kg_M_reset_in _ (List.mem_of_getElem? (i := 9) rfl)) <|
  sd_iconst (pc := 15) (kt_tab_get kx_M_reset 8 rfl) kc_i_0 <|
  sd_istore_n (pc := 16) (kt_tab_get kx_M_reset 9 rfl) rfl (by decide) <|
  (kz_M_reset_17 100)
noncomputable def kd_M_reset_7 : kt_D := ki_push (.int 7) <| ki_iret
theorem kz_M_reset_7 : kt_Snd l kt_shM kb_M_reset 2 RX7 (some .int) 3 0 0 false false 7 kd_M_reset_7 :=
  sd_bipush (pc := 7) (kt_tab_get kx_M_reset 3 rfl) kc_b_7 <|
  sd_iret (pc := 9) rfl (by decide) (kt_tab_get kx_M_reset 4 rfl)
noncomputable def kd_M_reset_0 : kt_D := ki_aload 0 <| ki_get kt_shM 7 6 <| ki_if_ne kd_M_reset_10 (ki_drop 0 kd_M_reset_7)
theorem kz_M_reset_0 : kt_Snd l kt_shM kb_M_reset 2 RX7 (some .int) 3 0 0 false false 0 kd_M_reset_0 :=
  sd_aload_n (pc := 0) (kt_tab_get kx_M_reset 0 rfl) rfl <|
  sd_get (pc := 1) (k := 6) (ci := 7) kt_hc7 kt_hin7 (by decide) (kt_tab_get kx_M_reset 1 rfl) (kg_M_reset_in _ (List.mem_of_getElem? (i := 9) rfl)) <|
  sd_if_ne (pc := 4) (tgt := 10) (kt_tab_get kx_M_reset 2 rfl) rfl kz_M_reset_10 (sd_drop (k := 0) kz_M_reset_7)
noncomputable def kf_M_reset : kt_F := kt_run 2 kd_M_reset_0
theorem km_M_reset : kt_M l kt_shM ky_M_reset kb_M_reset 2 (some .int) 3 false kf_M_reset := kt_method (by decide) rfl kz_M_reset_0
noncomputable def kd_M_perform_58 : kt_D := ki_iret
theorem kz_M_perform_58 : kt_Snd l kt_shM kb_M_perform 2 RX7 (some .int) 6 0 0 false false 58 kd_M_perform_58 :=
  sd_iret (pc := 58) rfl (by decide) (kt_tab_get kx_M_perform 32 rfl)
noncomputable def kd_M_perform_54 : kt_D := ki_aload 0 <| ki_callV kt_shM 7 0 kf_M_reset <| (ki_drop 0 kd_M_perform_58)
theorem kz_M_perform_54 : kt_Snd l kt_shM kb_M_perform 2 RX7 (some .int) 6 0 0 false false 54 kd_M_perform_54 :=
  sd_aload_n (pc := 54) (kt_tab_get kx_M_perform 30 rfl) rfl <|
  sd_callV (pc := 55) km_M_reset (by decide) kv_M_reset (ci := 7) kt_hc7 (by decide) (kt_tab_get kx_M_perform 31 rfl) (kg_M_perform_in _ (List.mem_of_getElem? (i := 4) rfl)) <|
  (sd_drop (k := 0) kz_M_perform_58)
noncomputable def kd_M_perform_47 : kt_D := ki_aload 0 <| ki_callV kt_shM 7 0 kf_M_info <| (ki_drop 0 kd_M_perform_58)
theorem kz_M_perform_47 : kt_Snd l kt_shM kb_M_perform 2 RX7 (some .int) 6 0 0 false false 47 kd_M_perform_47 :=
  sd_aload_n (pc := 47) (kt_tab_get kx_M_perform 27 rfl) rfl <|
  sd_callV (pc := 48) km_M_info (by decide) kv_M_info (ci := 7) kt_hc7 (by decide) (kt_tab_get kx_M_perform 28 rfl) (kg_M_perform_in _ (List.mem_of_getElem? (i := 5) rfl)) <|
  sd_goto (pc := 51) (tgt := 58) (kt_tab_get kx_M_perform 29 rfl) rfl (sd_drop (k := 0) kz_M_perform_58)
noncomputable def kd_M_perform_42 : kt_D := ki_iload 1 <| ki_push (.int 4) <| ki_icmp_ne (ki_drop 1 kd_M_perform_54) (ki_drop 1 kd_M_perform_47)
theorem kz_M_perform_42 : kt_Snd l kt_shM kb_M_perform 2 RX7 (some .int) 6 0 0 false false 42 kd_M_perform_42 :=
  sd_iload_n (pc := 42) (kt_tab_get kx_M_perform 24 rfl) rfl <|
  sd_iconst (pc := 43) (kt_tab_get kx_M_perform 25 rfl) kc_i_4 <|
  sd_icmp_ne (pc := 44) (tgt := 54) (kt_tab_get kx_M_perform 26 rfl) rfl (sd_drop (k := 1) kz_M_perform_54) (sd_drop (k := 1) kz_M_perform_47)
noncomputable def kd_M_perform_37 : kt_D := ki_aload 0 <| ki_callV kt_shM 7 0 kf_M_pin <| ki_iret
theorem kz_M_perform_37 : kt_Snd l kt_shM kb_M_perform 2 RX7 (some .int) 6 0 0 false false 37 kd_M_perform_37 :=
  sd_aload_n (pc := 37) (kt_tab_get kx_M_perform 21 rfl) rfl <|
  sd_callV (pc := 38) km_M_pin (by decide) kv_M_pin (ci := 7) kt_hc7 (by decide) (kt_tab_get kx_M_perform 22 rfl) (kg_M_perform_in _ (List.mem_of_getElem? (i := 6) rfl)) <|
  sd_iret (pc := 41) rfl (by decide) (kt_tab_get kx_M_perform 23 rfl)
noncomputable def kd_M_perform_31 : kt_D := ki_iload 1 <| ki_push (.int 6) <| ki_icmp_ne kd_M_perform_42 (ki_drop 1 kd_M_perform_37)
theorem kz_M_perform_31 : kt_Snd l kt_shM kb_M_perform 2 RX7 (some .int) 6 0 0 false false 31 kd_M_perform_31 :=
  sd_iload_n (pc := 31) (kt_tab_get kx_M_perform 18 rfl) rfl <|
  sd_bipush (pc := 32) (kt_tab_get kx_M_perform 19 rfl) kc_b_6 <|
  sd_icmp_ne (pc := 34) (tgt := 42) (kt_tab_get kx_M_perform 20 rfl) rfl kz_M_perform_42 (sd_drop (k := 1) kz_M_perform_37)
noncomputable def kd_M_perform_26 : kt_D := ki_aload 0 <| ki_callV kt_shM 7 0 kf_M_next <| ki_iret
theorem kz_M_perform_26 : kt_Snd l kt_shM kb_M_perform 2 RX7 (some .int) 6 0 0 false false 26 kd_M_perform_26 :=
  sd_aload_n (pc := 26) (kt_tab_get kx_M_perform 15 rfl) rfl <|
  sd_callV (pc := 27) km_M_next (by decide) kv_M_next (ci := 7) kt_hc7 (by decide) (kt_tab_get kx_M_perform 16 rfl) (kg_M_perform_in _ (List.mem_of_getElem? (i := 7) rfl)) <|
  sd_iret (pc := 30) rfl (by decide) (kt_tab_get kx_M_perform 17 rfl)
noncomputable def kd_M_perform_20 : kt_D := ki_iload 1 <| ki_push (.int 8) <| ki_icmp_ne kd_M_perform_31 (ki_drop 1 kd_M_perform_26)
theorem kz_M_perform_20 : kt_Snd l kt_shM kb_M_perform 2 RX7 (some .int) 6 0 0 false false 20 kd_M_perform_20 :=
  sd_iload_n (pc := 20) (kt_tab_get kx_M_perform 12 rfl) rfl <|
  sd_bipush (pc := 21) (kt_tab_get kx_M_perform 13 rfl) kc_b_8 <|
  sd_icmp_ne (pc := 23) (tgt := 31) (kt_tab_get kx_M_perform 14 rfl) rfl kz_M_perform_31 (sd_drop (k := 1) kz_M_perform_26)
noncomputable def kd_M_perform_15 : kt_D := ki_aload 0 <| ki_callV kt_shM 7 0 kf_M_ask <| ki_iret
theorem kz_M_perform_15 : kt_Snd l kt_shM kb_M_perform 2 RX7 (some .int) 6 0 0 false false 15 kd_M_perform_15 :=
  sd_aload_n (pc := 15) (kt_tab_get kx_M_perform 9 rfl) rfl <|
  sd_callV (pc := 16) km_M_ask (by decide) kv_M_ask (ci := 7) kt_hc7 (by decide) (kt_tab_get kx_M_perform 10 rfl) (kg_M_perform_in _ (List.mem_of_getElem? (i := 8) rfl)) <|
  sd_iret (pc := 19) rfl (by decide) (kt_tab_get kx_M_perform 11 rfl)
noncomputable def kd_M_perform_10 : kt_D := ki_iload 1 <| ki_push (.int 2) <| ki_icmp_ne kd_M_perform_20 (ki_drop 1 kd_M_perform_15)
theorem kz_M_perform_10 : kt_Snd l kt_shM kb_M_perform 2 RX7 (some .int) 6 0 0 false false 10 kd_M_perform_10 :=
  sd_iload_n (pc := 10) (kt_tab_get kx_M_perform 6 rfl) rfl <|
  sd_iconst (pc := 11) (kt_tab_get kx_M_perform 7 rfl) kc_i_2 <|
  sd_icmp_ne (pc := 12) (tgt := 20) (kt_tab_get kx_M_perform 8 rfl) rfl kz_M_perform_20 (sd_drop (k := 1) kz_M_perform_15)
noncomputable def kd_M_perform_5 : kt_D := ki_aload 0 <| ki_callV kt_shM 7 0 kf_M_make <| ki_iret
theorem kz_M_perform_5 : kt_Snd l kt_shM kb_M_perform 2 RX7 (some .int) 6 0 0 false false 5 kd_M_perform_5 :=
  sd_aload_n (pc := 5) (kt_tab_get kx_M_perform 3 rfl) rfl <|
  sd_callV (pc := 6) km_M_make (by decide) kv_M_make (ci := 7) kt_hc7 (by decide) (kt_tab_get kx_M_perform 4 rfl) (kg_M_perform_in _ (List.mem_of_getElem? (i := 9) rfl)) <|
  sd_iret (pc := 9) rfl (by decide) (kt_tab_get kx_M_perform 5 rfl)
noncomputable def kd_M_perform_0 : kt_D := ki_iload 1 <| ki_push (.int 1) <| ki_icmp_ne kd_M_perform_10 (ki_drop 1 kd_M_perform_5)
theorem kz_M_perform_0 : kt_Snd l kt_shM kb_M_perform 2 RX7 (some .int) 6 0 0 false false 0 kd_M_perform_0 :=
  sd_iload_n (pc := 0) (kt_tab_get kx_M_perform 0 rfl) rfl <|
  sd_iconst (pc := 1) (kt_tab_get kx_M_perform 1 rfl) kc_i_1 <|
  sd_icmp_ne (pc := 2) (tgt := 10) (kt_tab_get kx_M_perform 2 rfl) rfl kz_M_perform_10 (sd_drop (k := 1) kz_M_perform_5)
noncomputable def kf_M_perform : kt_F := kt_run 2 kd_M_perform_0
theorem km_M_perform : kt_M l kt_shM ky_M_perform kb_M_perform 2 (some .int) 6 false kf_M_perform := kt_method (by decide) rfl kz_M_perform_0
noncomputable def kd_M_request_126 : kt_D := ki_aload 0 <| ki_push (.int 0) <| ki_put kt_shM 7 10 0 <| ki_aload 0 <| ki_push (.int (-1)) <| ki_put kt_shM 7 4 0 <| ki_iload 2 <| ki_iret
theorem kz_M_request_126 : kt_Snd l kt_shM kb_M_request 3 RX7 (some .int) 7 0 0 false false 126 kd_M_request_126 :=
  sd_aload_n (pc := 126) (kt_tab_get kx_M_request 71 rfl) rfl <|
  sd_iconst (pc := 127) (kt_tab_get kx_M_request 72 rfl) kc_i_0 <|
  sd_put (pc := 128) (k := 10) (ci := 7) kt_hc7 kt_hin7 tyX7_ok nmX7 (by decide) rfl rfl (Or.inl ⟨rfl, rfl⟩) (kt_tab_get kx_M_request 73 rfl) (kg_M_request_in _ (List.mem_of_getElem? (i := 4) rfl)) <|
  sd_aload_n (pc := 131) (kt_tab_get kx_M_request 74 rfl) rfl <|
  sd_iconst (pc := 132) (kt_tab_get kx_M_request 75 rfl) kc_i_m1 <|
  sd_put (pc := 133) (k := 4) (ci := 7) kt_hc7 kt_hin7 tyX7_ok nmX7 (by decide) rfl rfl (Or.inl ⟨rfl, rfl⟩) (kt_tab_get kx_M_request 76 rfl) (kg_M_request_in _ (List.mem_of_getElem? (i := 5) rfl)) <|
  sd_iload_n (pc := 136) (kt_tab_get kx_M_request 77 rfl) rfl <|
  sd_iret (pc := 137) rfl (by decide) (kt_tab_get kx_M_request 78 rfl)
noncomputable def kd_M_request_116 : kt_D := ki_aload 0 <| ki_push (.int 0) <| ki_put kt_shM 7 12 0 <| ki_aload 0 <| ki_iload 2 <| ki_callV kt_shM 7 1 kf_M_out <| kd_M_request_126
theorem kz_M_request_116 : kt_Snd l kt_shM kb_M_request 3 RX7 (some .int) 7 0 0 false false 116 kd_M_request_116 :=
  sd_aload_n (pc := 116) (kt_tab_get kx_M_request 65 rfl) rfl <|
  sd_iconst (pc := 117) (kt_tab_get kx_M_request 66 rfl) kc_i_0 <|
  sd_put (pc := 118) (k := 12) (ci := 7) kt_hc7 kt_hin7 tyX7_ok nmX7 (by decide) rfl rfl (Or.inl ⟨rfl, rfl⟩) (kt_tab_get kx_M_request 67 rfl) (kg_M_request_in _ (List.mem_of_getElem? (i := 6) rfl)) <|
  sd_aload_n (pc := 121) (kt_tab_get kx_M_request 68 rfl) rfl <|
  sd_iload_n (pc := 122) (kt_tab_get kx_M_request 69 rfl) rfl <|
  sd_callV (pc := 123) km_M_out (by decide) kv_M_out (ci := 7) kt_hc7 (by decide) (kt_tab_get kx_M_request 70 rfl) (kg_M_request_in _ (List.mem_of_getElem? (i := 7) rfl)) <|
  kz_M_request_126
noncomputable def kd_M_request_112 : kt_D := ki_iload 2 <| ki_if_eq kd_M_request_126 kd_M_request_116
theorem kz_M_request_112 : kt_Snd l kt_shM kb_M_request 3 RX7 (some .int) 7 0 0 false false 112 kd_M_request_112 :=
  sd_iload_n (pc := 112) (kt_tab_get kx_M_request 63 rfl) rfl <|
  sd_if_eq (pc := 113) (tgt := 126) (kt_tab_get kx_M_request 64 rfl) rfl kz_M_request_126 kz_M_request_116
noncomputable def kd_M_request_110 : kt_D := ki_push (.int (-1)) <| ki_iret
theorem kz_M_request_110 : kt_Snd l kt_shM kb_M_request 3 RX7 (some .int) 7 0 0 false false 110 kd_M_request_110 :=
  sd_iconst (pc := 110) (kt_tab_get kx_M_request 61 rfl) kc_i_m1 <|
  sd_iret (pc := 111) rfl (by decide) (kt_tab_get kx_M_request 62 rfl)
noncomputable def kd_M_request_103 : kt_D := ki_aload 0 <| ki_get kt_shM 7 5 <| ki_if_ne kd_M_request_112 (ki_drop 2 (ki_drop 0 kd_M_request_110))
theorem kz_M_request_103 : kt_Snd l kt_shM kb_M_request 3 RX7 (some .int) 7 0 0 false false 103 kd_M_request_103 :=
  sd_aload_n (pc := 103) (kt_tab_get kx_M_request 58 rfl) rfl <|
  sd_get (pc := 104) (k := 5) (ci := 7) kt_hc7 kt_hin7 (by decide) (kt_tab_get kx_M_request 59 rfl) (kg_M_request_in _ (List.mem_of_getElem? (i := 8) rfl)) <|
  sd_if_ne (pc := 107) (tgt := 112) (kt_tab_get kx_M_request 60 rfl) rfl kz_M_request_112 (sd_drop (k := 2) (sd_drop (k := 0) kz_M_request_110))
noncomputable def kd_M_request_94 : kt_D := ki_put kt_shM 7 13 0 <| ki_aload 0 <| ki_iload 1 <| ki_callV kt_shM 7 1 kf_M_perform <| ki_istore 2 <| (ki_drop 1 kd_M_request_103)
theorem kz_M_request_94 : kt_Snd l kt_shM kb_M_request 3 RX7 (some .int) 7 0 0 false false 94 kd_M_request_94 :=
  sd_put (pc := 94) (k := 13) (ci := 7) kt_hc7 kt_hin7 tyX7_ok nmX7 (by decide) rfl rfl (Or.inl ⟨rfl, rfl⟩) (kt_tab_get kx_M_request 53 rfl) (kg_M_request_in _ (List.mem_of_getElem? (i := 9) rfl)) <|
  sd_aload_n (pc := 97) (kt_tab_get kx_M_request 54 rfl) rfl <|
  sd_iload_n (pc := 98) (kt_tab_get kx_M_request 55 rfl) rfl <|
  sd_callV (pc := 99) km_M_perform (by decide) kv_M_perform (ci := 7) kt_hc7 (by decide) (kt_tab_get kx_M_request 56 rfl) (kg_M_request_in _ (List.mem_of_getElem? (i := 10) rfl)) <|
  sd_istore_n (pc := 102) (kt_tab_get kx_M_request 57 rfl) rfl (by decide) <|
  (sd_drop (k := 1) kz_M_request_103)
noncomputable def kd_M_request_93 : kt_D := ki_push (.int 0) <| kd_M_request_94
theorem kz_M_request_93 : kt_Snd l kt_shM kb_M_request 3 RX7 (some .int) 7 0 0 false false 93 kd_M_request_93 :=
  sd_iconst (pc := 93) (kt_tab_get kx_M_request 52 rfl) kc_i_0 <|
  kz_M_request_94
noncomputable def kd_M_request_86 : kt_D := ki_aload 0 <| ki_get kt_shM 7 13 <| kd_M_request_94
theorem kz_M_request_86 : kt_Snd l kt_shM kb_M_request 3 RX7 (some .int) 7 0 0 false false 86 kd_M_request_86 :=
  sd_aload_n (pc := 86) (kt_tab_get kx_M_request 49 rfl) rfl <|
  sd_get (pc := 87) (k := 13) (ci := 7) kt_hc7 kt_hin7 (by decide) (kt_tab_get kx_M_request 50 rfl) (kg_M_request_in _ (List.mem_of_getElem? (i := 9) rfl)) <|
  sd_goto (pc := 90) (tgt := 94) (kt_tab_get kx_M_request 51 rfl) rfl kz_M_request_94
noncomputable def kd_M_request_74 : kt_D := ki_aload 0 <| ki_push (.int 0) <| ki_callV kt_shM 7 1 kf_M_begin <| ki_aload 0 <| ki_iload 1 <| ki_push (.int 8) <| ki_icmp_ne kd_M_request_93 kd_M_request_86
theorem kz_M_request_74 : kt_Snd l kt_shM kb_M_request 3 RX7 (some .int) 7 0 0 false false 74 kd_M_request_74 :=
  sd_aload_n (pc := 74) (kt_tab_get kx_M_request 42 rfl) rfl <|
  sd_iconst (pc := 75) (kt_tab_get kx_M_request 43 rfl) kc_i_0 <|
  sd_callV (pc := 76) km_M_begin (by decide) kv_M_begin (ci := 7) kt_hc7 (by decide) (kt_tab_get kx_M_request 44 rfl) (kg_M_request_in _ (List.mem_of_getElem? (i := 11) rfl)) <|
  sd_aload_n (pc := 79) (kt_tab_get kx_M_request 45 rfl) rfl <|
  sd_iload_n (pc := 80) (kt_tab_get kx_M_request 46 rfl) rfl <|
  sd_bipush (pc := 81) (kt_tab_get kx_M_request 47 rfl) kc_b_8 <|
  sd_icmp_ne (pc := 83) (tgt := 93) (kt_tab_get kx_M_request 48 rfl) rfl kz_M_request_93 kz_M_request_86
noncomputable def kd_M_request_69 : kt_D := ki_istore 2 <| ki_iload 2 <| ki_if_ne (ki_drop 1 kd_M_request_103) (ki_drop 2 kd_M_request_74)
theorem kz_M_request_69 : kt_Snd l kt_shM kb_M_request 3 RX7 (some .int) 7 0 0 false false 69 kd_M_request_69 :=
  sd_istore_n (pc := 69) (kt_tab_get kx_M_request 39 rfl) rfl (by decide) <|
  sd_iload_n (pc := 70) (kt_tab_get kx_M_request 40 rfl) rfl <|
  sd_if_ne (pc := 71) (tgt := 103) (kt_tab_get kx_M_request 41 rfl) rfl (sd_drop (k := 1) kz_M_request_103) (sd_drop (k := 2) kz_M_request_74)
noncomputable def kd_M_request_68 : kt_D := ki_push (.int 2) <| kd_M_request_69
theorem kz_M_request_68 : kt_Snd l kt_shM kb_M_request 3 RX7 (some .int) 7 0 0 false false 68 kd_M_request_68 :=
  sd_iconst (pc := 68) (kt_tab_get kx_M_request 38 rfl) kc_i_2 <|
  kz_M_request_69
noncomputable def kd_M_request_64 : kt_D := ki_push (.int 0) <| kd_M_request_69
theorem kz_M_request_64 : kt_Snd l kt_shM kb_M_request 3 RX7 (some .int) 7 0 0 false false 64 kd_M_request_64 :=
  sd_iconst (pc := 64) (kt_tab_get kx_M_request 36 rfl) kc_i_0 <|
  sd_goto (pc := 65) (tgt := 69) (kt_tab_get kx_M_request 37 rfl) rfl kz_M_request_69
noncomputable def kd_M_request_57 : kt_D := ki_aload 0 <| ki_callV kt_shM 7 0 kf_M_formed <| ki_if_eq kd_M_request_68 kd_M_request_64
theorem kz_M_request_57 : kt_Snd l kt_shM kb_M_request 3 RX7 (some .int) 7 0 0 false false 57 kd_M_request_57 :=
  sd_aload_n (pc := 57) (kt_tab_get kx_M_request 33 rfl) rfl <|
  sd_callV (pc := 58) km_M_formed (by decide) kv_M_formed (ci := 7) kt_hc7 (by decide) (kt_tab_get kx_M_request 34 rfl) (kg_M_request_in _ (List.mem_of_getElem? (i := 12) rfl)) <|
  sd_if_eq (pc := 61) (tgt := 68) (kt_tab_get kx_M_request 35 rfl) rfl kz_M_request_68 kz_M_request_64
noncomputable def kd_M_request_51 : kt_D := ki_iload 1 <| ki_push (.int 8) <| ki_icmp_gt (ki_drop 1 kd_M_request_103) (ki_drop 2 kd_M_request_57)
theorem kz_M_request_51 : kt_Snd l kt_shM kb_M_request 3 RX7 (some .int) 7 0 0 false false 51 kd_M_request_51 :=
  sd_iload_n (pc := 51) (kt_tab_get kx_M_request 30 rfl) rfl <|
  sd_bipush (pc := 52) (kt_tab_get kx_M_request 31 rfl) kc_b_8 <|
  sd_icmp_gt (pc := 54) (tgt := 103) (kt_tab_get kx_M_request 32 rfl) rfl (sd_drop (k := 1) kz_M_request_103) (sd_drop (k := 2) kz_M_request_57)
noncomputable def kd_M_request_45 : kt_D := ki_iload 1 <| ki_push (.int 6) <| ki_icmp_lt (ki_drop 1 kd_M_request_103) kd_M_request_51
theorem kz_M_request_45 : kt_Snd l kt_shM kb_M_request 3 RX7 (some .int) 7 0 0 false false 45 kd_M_request_45 :=
  sd_iload_n (pc := 45) (kt_tab_get kx_M_request 27 rfl) rfl <|
  sd_bipush (pc := 46) (kt_tab_get kx_M_request 28 rfl) kc_b_6 <|
  sd_icmp_lt (pc := 48) (tgt := 103) (kt_tab_get kx_M_request 29 rfl) rfl (sd_drop (k := 1) kz_M_request_103) kz_M_request_51
noncomputable def kd_M_request_40 : kt_D := ki_iload 1 <| ki_push (.int 4) <| ki_icmp_eq (ki_drop 2 kd_M_request_57) kd_M_request_45
theorem kz_M_request_40 : kt_Snd l kt_shM kb_M_request 3 RX7 (some .int) 7 0 0 false false 40 kd_M_request_40 :=
  sd_iload_n (pc := 40) (kt_tab_get kx_M_request 24 rfl) rfl <|
  sd_iconst (pc := 41) (kt_tab_get kx_M_request 25 rfl) kc_i_4 <|
  sd_icmp_eq (pc := 42) (tgt := 57) (kt_tab_get kx_M_request 26 rfl) rfl (sd_drop (k := 2) kz_M_request_57) kz_M_request_45
noncomputable def kd_M_request_35 : kt_D := ki_iload 1 <| ki_push (.int 2) <| ki_icmp_eq (ki_drop 2 kd_M_request_57) kd_M_request_40
theorem kz_M_request_35 : kt_Snd l kt_shM kb_M_request 3 RX7 (some .int) 7 0 0 false false 35 kd_M_request_35 :=
  sd_iload_n (pc := 35) (kt_tab_get kx_M_request 21 rfl) rfl <|
  sd_iconst (pc := 36) (kt_tab_get kx_M_request 22 rfl) kc_i_2 <|
  sd_icmp_eq (pc := 37) (tgt := 57) (kt_tab_get kx_M_request 23 rfl) rfl (sd_drop (k := 2) kz_M_request_57) kz_M_request_40
noncomputable def kd_M_request_27 : kt_D := ki_istore 1 <| ki_push (.int 1) <| ki_istore 2 <| ki_iload 1 <| ki_push (.int 1) <| ki_icmp_eq (ki_drop 2 kd_M_request_57) kd_M_request_35
theorem kz_M_request_27 : kt_Snd l kt_shM kb_M_request 3 RX7 (some .int) 7 0 0 false false 27 kd_M_request_27 :=
  sd_istore_n (pc := 27) (kt_tab_get kx_M_request 15 rfl) rfl (by decide) <|
  sd_iconst (pc := 28) (kt_tab_get kx_M_request 16 rfl) kc_i_1 <|
  sd_istore_n (pc := 29) (kt_tab_get kx_M_request 17 rfl) rfl (by decide) <|
  sd_iload_n (pc := 30) (kt_tab_get kx_M_request 18 rfl) rfl <|
  sd_iconst (pc := 31) (kt_tab_get kx_M_request 19 rfl) kc_i_1 <|
  sd_icmp_eq (pc := 32) (tgt := 57) (kt_tab_get kx_M_request 20 rfl) rfl (sd_drop (k := 2) kz_M_request_57) kz_M_request_35
noncomputable def kd_M_request_21 : kt_D := ki_aload 0 <| ki_get kt_shM 7 9 <| ki_push (.int 0) <| ki_iald kt_shM <| kd_M_request_27
theorem kz_M_request_21 : kt_Snd l kt_shM kb_M_request 3 RX7 (some .int) 7 0 0 false false 21 kd_M_request_21 :=
  sd_aload_n (pc := 21) (kt_tab_get kx_M_request 11 rfl) rfl <|
  sd_get (pc := 22) (k := 9) (ci := 7) kt_hc7 kt_hin7 (by decide) (kt_tab_get kx_M_request 12 rfl) (kg_M_request_in _ (List.mem_of_getElem? (i := 13) rfl)) <|
  sd_iconst (pc := 25) (kt_tab_get kx_M_request 13 rfl) kc_i_0 <|
  sd_iald (pc := 26) (kt_tab_get kx_M_request 14 rfl) <|
  kz_M_request_27
noncomputable def kd_M_request_17 : kt_D := ki_push (.int 0) <| kd_M_request_27
theorem kz_M_request_17 : kt_Snd l kt_shM kb_M_request 3 RX7 (some .int) 7 0 0 false false 17 kd_M_request_17 :=
  sd_iconst (pc := 17) (kt_tab_get kx_M_request 9 rfl) kc_i_0 <|
  sd_goto (pc := 18) (tgt := 27) (kt_tab_get kx_M_request 10 rfl) rfl kz_M_request_27
noncomputable def kd_M_request_0 : kt_D := ki_aload 0 <| ki_push (.int 0) <| ki_put kt_shM 7 3 0 <| ki_aload 0 <| ki_push (.int 0) <| ki_put kt_shM 7 12 0 <| ki_aload 0 <| ki_get kt_shM 7 10 <| ki_if_ne kd_M_request_21 kd_M_request_17
theorem kz_M_request_0 : kt_Snd l kt_shM kb_M_request 3 RX7 (some .int) 7 0 0 false false 0 kd_M_request_0 :=
  sd_aload_n (pc := 0) (kt_tab_get kx_M_request 0 rfl) rfl <|
  sd_iconst (pc := 1) (kt_tab_get kx_M_request 1 rfl) kc_i_0 <|
  sd_put (pc := 2) (k := 3) (ci := 7) kt_hc7 kt_hin7 tyX7_ok nmX7 (by decide) rfl rfl (Or.inl ⟨rfl, rfl⟩) (kt_tab_get kx_M_request 2 rfl) (kg_M_request_in _ (List.mem_of_getElem? (i := 14) rfl)) <|
  sd_aload_n (pc := 5) (kt_tab_get kx_M_request 3 rfl) rfl <|
  sd_iconst (pc := 6) (kt_tab_get kx_M_request 4 rfl) kc_i_0 <|
  sd_put (pc := 7) (k := 12) (ci := 7) kt_hc7 kt_hin7 tyX7_ok nmX7 (by decide) rfl rfl (Or.inl ⟨rfl, rfl⟩) (kt_tab_get kx_M_request 5 rfl) (kg_M_request_in _ (List.mem_of_getElem? (i := 6) rfl)) <|
  sd_aload_n (pc := 10) (kt_tab_get kx_M_request 6 rfl) rfl <|
  sd_get (pc := 11) (k := 10) (ci := 7) kt_hc7 kt_hin7 (by decide) (kt_tab_get kx_M_request 7 rfl) (kg_M_request_in _ (List.mem_of_getElem? (i := 4) rfl)) <|
  sd_if_ne (pc := 14) (tgt := 21) (kt_tab_get kx_M_request 8 rfl) rfl kz_M_request_21 kz_M_request_17
noncomputable def kf_M_request : kt_F := kt_run 3 kd_M_request_0
theorem km_M_request : kt_M l kt_shM ky_M_request kb_M_request 3 (some .int) 7 false kf_M_request := kt_method (by decide) rfl kz_M_request_0
noncomputable def kd_M_press_14 : kt_D := ki_aload 0 <| ki_push (.int 1) <| ki_put kt_shM 7 6 1 <| ki_push (.int 1) <| ki_zret
theorem kz_M_press_14 : kt_Snd l kt_shM kb_M_press 1 RX7 (some .boolean) 0 0 0 false false 14 kd_M_press_14 :=
  sd_aload_n (pc := 14) (kt_tab_get kx_M_press 8 rfl) rfl <|
  sd_iconst (pc := 15) (kt_tab_get kx_M_press 9 rfl) kc_i_1 <|
  sd_put (pc := 16) (k := 6) (ci := 7) kt_hc7 kt_hin7 tyX7_ok nmX7 (by decide) rfl rfl (Or.inr ⟨rfl, rfl⟩) (kt_tab_get kx_M_press 10 rfl) (kg_M_press_in _ (List.mem_of_getElem? (i := 4) rfl)) <|
  sd_iconst (pc := 19) (kt_tab_get kx_M_press 11 rfl) kc_i_1 <|
  sd_zret (pc := 20) rfl (by decide) (kt_tab_get kx_M_press 12 rfl)
noncomputable def kd_M_press_12 : kt_D := ki_push (.int 0) <| ki_zret
theorem kz_M_press_12 : kt_Snd l kt_shM kb_M_press 1 RX7 (some .boolean) 0 0 0 false false 12 kd_M_press_12 :=
  sd_iconst (pc := 12) (kt_tab_get kx_M_press 6 rfl) kc_i_0 <|
  sd_zret (pc := 13) rfl (by decide) (kt_tab_get kx_M_press 7 rfl)
noncomputable def kd_M_press_0 : kt_D := ki_aload 0 <| ki_push (.int 0) <| ki_put kt_shM 7 0 0 <| ki_aload 0 <| ki_get kt_shM 7 5 <| ki_if_ne kd_M_press_14 (ki_drop 0 kd_M_press_12)
theorem kz_M_press_0 : kt_Snd l kt_shM kb_M_press 1 RX7 (some .boolean) 0 0 0 false false 0 kd_M_press_0 :=
  sd_aload_n (pc := 0) (kt_tab_get kx_M_press 0 rfl) rfl <|
  sd_iconst (pc := 1) (kt_tab_get kx_M_press 1 rfl) kc_i_0 <|
  sd_put (pc := 2) (k := 0) (ci := 7) kt_hc7 kt_hin7 tyX7_ok nmX7 (by decide) rfl rfl (Or.inl ⟨rfl, rfl⟩) (kt_tab_get kx_M_press 2 rfl) (kg_M_press_in _ (List.mem_of_getElem? (i := 5) rfl)) <|
  sd_aload_n (pc := 5) (kt_tab_get kx_M_press 3 rfl) rfl <|
  sd_get (pc := 6) (k := 5) (ci := 7) kt_hc7 kt_hin7 (by decide) (kt_tab_get kx_M_press 4 rfl) (kg_M_press_in _ (List.mem_of_getElem? (i := 6) rfl)) <|
  sd_if_ne (pc := 9) (tgt := 14) (kt_tab_get kx_M_press 5 rfl) rfl kz_M_press_14 (sd_drop (k := 0) kz_M_press_12)
noncomputable def kf_M_press : kt_F := kt_run 1 kd_M_press_0
theorem km_M_press : kt_M l kt_shM ky_M_press kb_M_press 1 (some .boolean) 0 false kf_M_press := kt_method (by decide) rfl kz_M_press_0
noncomputable def kd_M_feed_96 : kt_D := ki_vret
theorem kz_M_feed_96 : kt_Snd l kt_shM kb_M_feed 5 RX7 none 0 0 0 false false 96 kd_M_feed_96 :=
  sd_vret (pc := 96) rfl (by decide) (kt_tab_get kx_M_feed 52 rfl)
noncomputable def kd_M_feed_59 (kh_47 : kt_D) : kt_D := ki_aload 0 <| ki_get kt_shM 7 9 <| ki_aload 0 <| ki_get kt_shM 7 10 <| ki_lload 1 <| ki_push (.int 8) <| ki_iload 4 <| ki_imul <| ki_lshr <| ki_push (.long 255) <| ki_land <| ki_l2i <| ki_iast kt_shM <| ki_aload 0 <| ki_dup <| ki_get kt_shM 7 10 <| ki_push (.int 1) <| ki_iadd <| ki_put kt_shM 7 10 0 <| ki_iinc 4 (-1) <| kh_47
theorem kz_M_feed_59 {kh_47 : kt_D} (zh_47 : kt_Snd l kt_shM kb_M_feed 5 RX7 none 0 0 0 false false 47 kh_47) : kt_Snd l kt_shM kb_M_feed 5 RX7 none 0 0 0 false false 59 (kd_M_feed_59 kh_47) :=
  sd_aload_n (pc := 59) (kt_tab_get kx_M_feed 31 rfl) rfl <|
  sd_get (pc := 60) (k := 9) (ci := 7) kt_hc7 kt_hin7 (by decide) (kt_tab_get kx_M_feed 32 rfl) (kg_M_feed_in _ (List.mem_of_getElem? (i := 4) rfl)) <|
  sd_aload_n (pc := 63) (kt_tab_get kx_M_feed 33 rfl) rfl <|
  sd_get (pc := 64) (k := 10) (ci := 7) kt_hc7 kt_hin7 (by decide) (kt_tab_get kx_M_feed 34 rfl) (kg_M_feed_in _ (List.mem_of_getElem? (i := 5) rfl)) <|
  sd_lload_n (pc := 67) (kt_tab_get kx_M_feed 35 rfl) rfl <|
  sd_bipush (pc := 68) (kt_tab_get kx_M_feed 36 rfl) kc_b_8 <|
  sd_iload (pc := 70) (kt_tab_get kx_M_feed 37 rfl) <|
  sd_imul (pc := 72) (kt_tab_get kx_M_feed 38 rfl) <|
  sd_lshr (pc := 73) (kt_tab_get kx_M_feed 39 rfl) <|
  sd_ldc2 (pc := 74) (kt_tab_get kx_M_feed 40 rfl) (kg_M_feed_in _ (List.mem_of_getElem? (i := 6) rfl)) <|
  sd_land (pc := 77) (kt_tab_get kx_M_feed 41 rfl) <|
  sd_l2i (pc := 78) (kt_tab_get kx_M_feed 42 rfl) <|
  sd_iast (pc := 79) (kt_tab_get kx_M_feed 43 rfl) <|
  sd_aload_n (pc := 80) (kt_tab_get kx_M_feed 44 rfl) rfl <|
  sd_dup (pc := 81) (kt_tab_get kx_M_feed 45 rfl) <|
  sd_get (pc := 82) (k := 10) (ci := 7) kt_hc7 kt_hin7 (by decide) (kt_tab_get kx_M_feed 46 rfl) (kg_M_feed_in _ (List.mem_of_getElem? (i := 5) rfl)) <|
  sd_iconst (pc := 85) (kt_tab_get kx_M_feed 47 rfl) kc_i_1 <|
  sd_iadd (pc := 86) (kt_tab_get kx_M_feed 48 rfl) <|
  sd_put (pc := 87) (k := 10) (ci := 7) kt_hc7 kt_hin7 tyX7_ok nmX7 (by decide) rfl rfl (Or.inl ⟨rfl, rfl⟩) (kt_tab_get kx_M_feed 49 rfl) (kg_M_feed_in _ (List.mem_of_getElem? (i := 5) rfl)) <|
  sd_iinc (pc := 90) (kt_tab_get kx_M_feed 50 rfl) kc_i_m1 (by decide) <|
  sd_goto (pc := 93) (tgt := 47) (kt_tab_get kx_M_feed 51 rfl) rfl zh_47
noncomputable def kd_M_feed_52 (kh_47 : kt_D) : kt_D := ki_aload 0 <| ki_get kt_shM 7 0 <| ki_if_ne (ki_drop 4 (ki_drop 1 (ki_drop 0 kd_M_feed_96))) (kd_M_feed_59 kh_47)
theorem kz_M_feed_52 {kh_47 : kt_D} (zh_47 : kt_Snd l kt_shM kb_M_feed 5 RX7 none 0 0 0 false false 47 kh_47) : kt_Snd l kt_shM kb_M_feed 5 RX7 none 0 0 0 false false 52 (kd_M_feed_52 kh_47) :=
  sd_aload_n (pc := 52) (kt_tab_get kx_M_feed 28 rfl) rfl <|
  sd_get (pc := 53) (k := 0) (ci := 7) kt_hc7 kt_hin7 (by decide) (kt_tab_get kx_M_feed 29 rfl) (kg_M_feed_in _ (List.mem_of_getElem? (i := 7) rfl)) <|
  sd_if_ne (pc := 56) (tgt := 96) (kt_tab_get kx_M_feed 30 rfl) rfl (sd_drop (k := 4) (sd_drop (k := 1) (sd_drop (k := 0) kz_M_feed_96))) (kz_M_feed_59 zh_47)
noncomputable def kd_M_feed_47b (kh_47 : kt_D) : kt_D := ki_iload 4 <| ki_if_lt (ki_drop 4 (ki_drop 1 (ki_drop 0 kd_M_feed_96))) (kd_M_feed_52 kh_47)
theorem kz_M_feed_47b {kh_47 : kt_D} (zh_47 : kt_Snd l kt_shM kb_M_feed 5 RX7 none 0 0 0 false false 47 kh_47) : kt_Snd l kt_shM kb_M_feed 5 RX7 none 0 0 0 false false 47 (kd_M_feed_47b kh_47) :=
  sd_iload (pc := 47) (kt_tab_get kx_M_feed 26 rfl) <|
  sd_if_lt (pc := 49) (tgt := 96) (kt_tab_get kx_M_feed 27 rfl) rfl (sd_drop (k := 4) (sd_drop (k := 1) (sd_drop (k := 0) kz_M_feed_96))) (kz_M_feed_52 zh_47)
noncomputable def kd_M_feed_47 (n : Nat) : kt_D := Nat.rec (fun _ _ _ => none) (fun _ ih => kd_M_feed_47b ih) n
theorem kz_M_feed_47 (n : Nat) : kt_Snd l kt_shM kb_M_feed 5 RX7 none 0 0 0 false false 47 (kd_M_feed_47 n) := by
  induction n with
  | zero => exact sd_fail
  | succ n ih => exact kz_M_feed_47b ih
noncomputable def kd_M_feed_39 : kt_D := ki_put kt_shM 7 0 0 <| ki_iload 3 <| ki_push (.int 1) <| ki_isub <| ki_istore 4 <| (ki_drop 3 (kd_M_feed_47 100))
theorem kz_M_feed_39 : kt_Snd l kt_shM kb_M_feed 5 RX7 none 0 0 0 false false 39 kd_M_feed_39 :=
  sd_put (pc := 39) (k := 0) (ci := 7) kt_hc7 kt_hin7 tyX7_ok nmX7 (by decide) rfl rfl (Or.inl ⟨rfl, rfl⟩) (kt_tab_get kx_M_feed 21 rfl) (kg_M_feed_in _ (List.mem_of_getElem? (i := 7) rfl)) <|
  sd_iload_n (pc := 42) (kt_tab_get kx_M_feed 22 rfl) rfl <|
  sd_iconst (pc := 43) (kt_tab_get kx_M_feed 23 rfl) kc_i_1 <|
  sd_isub (pc := 44) (kt_tab_get kx_M_feed 24 rfl) <|
  sd_istore (pc := 45) (kt_tab_get kx_M_feed 25 rfl) (by decide) <|
  (sd_drop (k := 3) (kz_M_feed_47 100))
noncomputable def kd_M_feed_34 : kt_D := ki_push (.int 2) <| kd_M_feed_39
theorem kz_M_feed_34 : kt_Snd l kt_shM kb_M_feed 5 RX7 none 0 0 0 false false 34 kd_M_feed_34 :=
  sd_iconst (pc := 34) (kt_tab_get kx_M_feed 18 rfl) kc_i_2 <|
  sd_goto (pc := 35) (tgt := 39) (kt_tab_get kx_M_feed 19 rfl) rfl kz_M_feed_39
noncomputable def kd_M_feed_38 : kt_D := ki_push (.int 0) <| kd_M_feed_39
theorem kz_M_feed_38 : kt_Snd l kt_shM kb_M_feed 5 RX7 none 0 0 0 false false 38 kd_M_feed_38 :=
  sd_iconst (pc := 38) (kt_tab_get kx_M_feed 20 rfl) kc_i_0 <|
  kz_M_feed_39
noncomputable def kd_M_feed_23 : kt_D := ki_aload 0 <| ki_get kt_shM 7 10 <| ki_iload 3 <| ki_iadd <| ki_push (.int 48) <| ki_icmp_le kd_M_feed_38 kd_M_feed_34
theorem kz_M_feed_23 : kt_Snd l kt_shM kb_M_feed 5 RX7 none 0 0 0 false false 23 kd_M_feed_23 :=
  sd_aload_n (pc := 23) (kt_tab_get kx_M_feed 12 rfl) rfl <|
  sd_get (pc := 24) (k := 10) (ci := 7) kt_hc7 kt_hin7 (by decide) (kt_tab_get kx_M_feed 13 rfl) (kg_M_feed_in _ (List.mem_of_getElem? (i := 5) rfl)) <|
  sd_iload_n (pc := 27) (kt_tab_get kx_M_feed 14 rfl) rfl <|
  sd_iadd (pc := 28) (kt_tab_get kx_M_feed 15 rfl) <|
  sd_bipush (pc := 29) (kt_tab_get kx_M_feed 16 rfl) kc_b_48 <|
  sd_icmp_le (pc := 31) (tgt := 38) (kt_tab_get kx_M_feed 17 rfl) rfl kz_M_feed_38 kz_M_feed_34
noncomputable def kd_M_feed_17 : kt_D := ki_iload 3 <| ki_push (.int 8) <| ki_icmp_gt kd_M_feed_34 kd_M_feed_23
theorem kz_M_feed_17 : kt_Snd l kt_shM kb_M_feed 5 RX7 none 0 0 0 false false 17 kd_M_feed_17 :=
  sd_iload_n (pc := 17) (kt_tab_get kx_M_feed 9 rfl) rfl <|
  sd_bipush (pc := 18) (kt_tab_get kx_M_feed 10 rfl) kc_b_8 <|
  sd_icmp_gt (pc := 20) (tgt := 34) (kt_tab_get kx_M_feed 11 rfl) rfl kz_M_feed_34 kz_M_feed_23
noncomputable def kd_M_feed_12 : kt_D := ki_iload 3 <| ki_push (.int 1) <| ki_icmp_lt kd_M_feed_34 kd_M_feed_17
theorem kz_M_feed_12 : kt_Snd l kt_shM kb_M_feed 5 RX7 none 0 0 0 false false 12 kd_M_feed_12 :=
  sd_iload_n (pc := 12) (kt_tab_get kx_M_feed 6 rfl) rfl <|
  sd_iconst (pc := 13) (kt_tab_get kx_M_feed 7 rfl) kc_i_1 <|
  sd_icmp_lt (pc := 14) (tgt := 34) (kt_tab_get kx_M_feed 8 rfl) rfl kz_M_feed_34 kz_M_feed_17
noncomputable def kd_M_feed_8 : kt_D := ki_push (.int 1) <| kd_M_feed_39
theorem kz_M_feed_8 : kt_Snd l kt_shM kb_M_feed 5 RX7 none 0 0 0 false false 8 kd_M_feed_8 :=
  sd_iconst (pc := 8) (kt_tab_get kx_M_feed 4 rfl) kc_i_1 <|
  sd_goto (pc := 9) (tgt := 39) (kt_tab_get kx_M_feed 5 rfl) rfl kz_M_feed_39
noncomputable def kd_M_feed_0 : kt_D := ki_aload 0 <| ki_aload 0 <| ki_get kt_shM 7 5 <| ki_if_ne kd_M_feed_12 kd_M_feed_8
theorem kz_M_feed_0 : kt_Snd l kt_shM kb_M_feed 5 RX7 none 0 0 0 false false 0 kd_M_feed_0 :=
  sd_aload_n (pc := 0) (kt_tab_get kx_M_feed 0 rfl) rfl <|
  sd_aload_n (pc := 1) (kt_tab_get kx_M_feed 1 rfl) rfl <|
  sd_get (pc := 2) (k := 5) (ci := 7) kt_hc7 kt_hin7 (by decide) (kt_tab_get kx_M_feed 2 rfl) (kg_M_feed_in _ (List.mem_of_getElem? (i := 8) rfl)) <|
  sd_if_ne (pc := 5) (tgt := 12) (kt_tab_get kx_M_feed 3 rfl) rfl kz_M_feed_12 kz_M_feed_8
noncomputable def kf_M_feed : kt_F := kt_run 5 kd_M_feed_0
theorem km_M_feed : kt_M l kt_shM ky_M_feed kb_M_feed 5 none 0 false kf_M_feed := kt_method (by decide) rfl kz_M_feed_0
noncomputable def kd_M_send_31 : kt_D := ki_iret
theorem kz_M_send_31 : kt_Snd l kt_shM kb_M_send 1 RX7 (some .int) 8 0 0 false false 31 kd_M_send_31 :=
  sd_iret (pc := 31) rfl (by decide) (kt_tab_get kx_M_send 15 rfl)
noncomputable def kd_M_send_30 : kt_D := ki_push (.int 0) <| kd_M_send_31
theorem kz_M_send_30 : kt_Snd l kt_shM kb_M_send 1 RX7 (some .int) 8 0 0 false false 30 kd_M_send_30 :=
  sd_iconst (pc := 30) (kt_tab_get kx_M_send 14 rfl) kc_i_0 <|
  kz_M_send_31
noncomputable def kd_M_send_23 : kt_D := ki_aload 0 <| ki_callV kt_shM 7 0 kf_M_request <| (ki_drop 0 kd_M_send_31)
theorem kz_M_send_23 : kt_Snd l kt_shM kb_M_send 1 RX7 (some .int) 8 0 0 false false 23 kd_M_send_23 :=
  sd_aload_n (pc := 23) (kt_tab_get kx_M_send 11 rfl) rfl <|
  sd_callV (pc := 24) km_M_request (by decide) kv_M_request (ci := 7) kt_hc7 (by decide) (kt_tab_get kx_M_send 12 rfl) (kg_M_send_in _ (List.mem_of_getElem? (i := 4) rfl)) <|
  sd_goto (pc := 27) (tgt := 31) (kt_tab_get kx_M_send 13 rfl) rfl (sd_drop (k := 0) kz_M_send_31)
noncomputable def kd_M_send_13 : kt_D := ki_put kt_shM 7 0 0 <| ki_aload 0 <| ki_get kt_shM 7 5 <| ki_if_eq (ki_drop 0 kd_M_send_30) kd_M_send_23
theorem kz_M_send_13 : kt_Snd l kt_shM kb_M_send 1 RX7 (some .int) 8 0 0 false false 13 kd_M_send_13 :=
  sd_put (pc := 13) (k := 0) (ci := 7) kt_hc7 kt_hin7 tyX7_ok nmX7 (by decide) rfl rfl (Or.inl ⟨rfl, rfl⟩) (kt_tab_get kx_M_send 7 rfl) (kg_M_send_in _ (List.mem_of_getElem? (i := 5) rfl)) <|
  sd_aload_n (pc := 16) (kt_tab_get kx_M_send 8 rfl) rfl <|
  sd_get (pc := 17) (k := 5) (ci := 7) kt_hc7 kt_hin7 (by decide) (kt_tab_get kx_M_send 9 rfl) (kg_M_send_in _ (List.mem_of_getElem? (i := 6) rfl)) <|
  sd_if_eq (pc := 20) (tgt := 30) (kt_tab_get kx_M_send 10 rfl) rfl (sd_drop (k := 0) kz_M_send_30) kz_M_send_23
noncomputable def kd_M_send_12 : kt_D := ki_push (.int 1) <| kd_M_send_13
theorem kz_M_send_12 : kt_Snd l kt_shM kb_M_send 1 RX7 (some .int) 8 0 0 false false 12 kd_M_send_12 :=
  sd_iconst (pc := 12) (kt_tab_get kx_M_send 6 rfl) kc_i_1 <|
  kz_M_send_13
noncomputable def kd_M_send_8 : kt_D := ki_push (.int 0) <| kd_M_send_13
theorem kz_M_send_8 : kt_Snd l kt_shM kb_M_send 1 RX7 (some .int) 8 0 0 false false 8 kd_M_send_8 :=
  sd_iconst (pc := 8) (kt_tab_get kx_M_send 4 rfl) kc_i_0 <|
  sd_goto (pc := 9) (tgt := 13) (kt_tab_get kx_M_send 5 rfl) rfl kz_M_send_13
noncomputable def kd_M_send_0 : kt_D := ki_aload 0 <| ki_aload 0 <| ki_get kt_shM 7 5 <| ki_if_eq kd_M_send_12 kd_M_send_8
theorem kz_M_send_0 : kt_Snd l kt_shM kb_M_send 1 RX7 (some .int) 8 0 0 false false 0 kd_M_send_0 :=
  sd_aload_n (pc := 0) (kt_tab_get kx_M_send 0 rfl) rfl <|
  sd_aload_n (pc := 1) (kt_tab_get kx_M_send 1 rfl) rfl <|
  sd_get (pc := 2) (k := 5) (ci := 7) kt_hc7 kt_hin7 (by decide) (kt_tab_get kx_M_send 2 rfl) (kg_M_send_in _ (List.mem_of_getElem? (i := 6) rfl)) <|
  sd_if_eq (pc := 5) (tgt := 12) (kt_tab_get kx_M_send 3 rfl) rfl kz_M_send_12 kz_M_send_8
noncomputable def kf_M_send : kt_F := kt_run 1 kd_M_send_0
theorem km_M_send : kt_M l kt_shM ky_M_send kb_M_send 1 (some .int) 8 false kf_M_send := kt_method (by decide) rfl kz_M_send_0
noncomputable def kd_M_waiting_0 : kt_D := ki_aload 0 <| ki_push (.int 0) <| ki_put kt_shM 7 0 0 <| ki_aload 0 <| ki_get kt_shM 7 12 <| ki_iret
theorem kz_M_waiting_0 : kt_Snd l kt_shM kb_M_waiting 1 RX7 (some .int) 0 0 0 false false 0 kd_M_waiting_0 :=
  sd_aload_n (pc := 0) (kt_tab_get kx_M_waiting 0 rfl) rfl <|
  sd_iconst (pc := 1) (kt_tab_get kx_M_waiting 1 rfl) kc_i_0 <|
  sd_put (pc := 2) (k := 0) (ci := 7) kt_hc7 kt_hin7 tyX7_ok nmX7 (by decide) rfl rfl (Or.inl ⟨rfl, rfl⟩) (kt_tab_get kx_M_waiting 2 rfl) (kg_M_waiting_in _ (List.mem_of_getElem? (i := 4) rfl)) <|
  sd_aload_n (pc := 5) (kt_tab_get kx_M_waiting 3 rfl) rfl <|
  sd_get (pc := 6) (k := 12) (ci := 7) kt_hc7 kt_hin7 (by decide) (kt_tab_get kx_M_waiting 4 rfl) (kg_M_waiting_in _ (List.mem_of_getElem? (i := 5) rfl)) <|
  sd_iret (pc := 9) rfl (by decide) (kt_tab_get kx_M_waiting 5 rfl)
noncomputable def kf_M_waiting : kt_F := kt_run 1 kd_M_waiting_0
theorem km_M_waiting : kt_M l kt_shM ky_M_waiting kb_M_waiting 1 (some .int) 0 false kf_M_waiting := kt_method (by decide) rfl kz_M_waiting_0
noncomputable def kd_M_take_100 : kt_D := ki_aload 0 <| ki_dup <| ki_get kt_shM 7 12 <| ki_iload 1 <| ki_isub <| ki_put kt_shM 7 12 0 <| ki_lload 2 <| ki_lret
theorem kz_M_take_100 : kt_Snd l kt_shM kb_M_take 5 RX7 (some .long) 0 0 0 false false 100 kd_M_take_100 :=
  sd_aload_n (pc := 100) (kt_tab_get kx_M_take 54 rfl) rfl <|
  sd_dup (pc := 101) (kt_tab_get kx_M_take 55 rfl) <|
  sd_get (pc := 102) (k := 12) (ci := 7) kt_hc7 kt_hin7 (by decide) (kt_tab_get kx_M_take 56 rfl) (kg_M_take_in _ (List.mem_of_getElem? (i := 4) rfl)) <|
  sd_iload_n (pc := 105) (kt_tab_get kx_M_take 57 rfl) rfl <|
  sd_isub (pc := 106) (kt_tab_get kx_M_take 58 rfl) <|
  sd_put (pc := 107) (k := 12) (ci := 7) kt_hc7 kt_hin7 tyX7_ok nmX7 (by decide) rfl rfl (Or.inl ⟨rfl, rfl⟩) (kt_tab_get kx_M_take 59 rfl) (kg_M_take_in _ (List.mem_of_getElem? (i := 4) rfl)) <|
  sd_lload_n (pc := 110) (kt_tab_get kx_M_take 60 rfl) rfl <|
  sd_lret (pc := 111) rfl (by decide) (kt_tab_get kx_M_take 61 rfl)
noncomputable def kd_M_take_78 (kh_69 : kt_D) : kt_D := ki_aload 0 <| ki_get kt_shM 7 11 <| ki_iload 4 <| ki_iload 1 <| ki_isub <| ki_aload 0 <| ki_get kt_shM 7 11 <| ki_iload 4 <| ki_iald kt_shM <| ki_iast kt_shM <| ki_iinc 4 1 <| kh_69
theorem kz_M_take_78 {kh_69 : kt_D} (zh_69 : kt_Snd l kt_shM kb_M_take 5 RX7 (some .long) 0 0 0 false false 69 kh_69) : kt_Snd l kt_shM kb_M_take 5 RX7 (some .long) 0 0 0 false false 78 (kd_M_take_78 kh_69) :=
  sd_aload_n (pc := 78) (kt_tab_get kx_M_take 42 rfl) rfl <|
  sd_get (pc := 79) (k := 11) (ci := 7) kt_hc7 kt_hin7 (by decide) (kt_tab_get kx_M_take 43 rfl) (kg_M_take_in _ (List.mem_of_getElem? (i := 5) rfl)) <|
  sd_iload (pc := 82) (kt_tab_get kx_M_take 44 rfl) <|
  sd_iload_n (pc := 84) (kt_tab_get kx_M_take 45 rfl) rfl <|
  sd_isub (pc := 85) (kt_tab_get kx_M_take 46 rfl) <|
  sd_aload_n (pc := 86) (kt_tab_get kx_M_take 47 rfl) rfl <|
  sd_get (pc := 87) (k := 11) (ci := 7) kt_hc7 kt_hin7 (by decide) (kt_tab_get kx_M_take 48 rfl) (kg_M_take_in _ (List.mem_of_getElem? (i := 5) rfl)) <|
  sd_iload (pc := 90) (kt_tab_get kx_M_take 49 rfl) <|
  sd_iald (pc := 92) (kt_tab_get kx_M_take 50 rfl) <|
  sd_iast (pc := 93) (kt_tab_get kx_M_take 51 rfl) <|
  sd_iinc (pc := 94) (kt_tab_get kx_M_take 52 rfl) kc_i_1 (by decide) <|
  sd_goto (pc := 97) (tgt := 69) (kt_tab_get kx_M_take 53 rfl) rfl zh_69
noncomputable def kd_M_take_69b (kh_69 : kt_D) : kt_D := ki_iload 4 <| ki_aload 0 <| ki_get kt_shM 7 12 <| ki_icmp_ge (ki_drop 4 kd_M_take_100) (kd_M_take_78 kh_69)
theorem kz_M_take_69b {kh_69 : kt_D} (zh_69 : kt_Snd l kt_shM kb_M_take 5 RX7 (some .long) 0 0 0 false false 69 kh_69) : kt_Snd l kt_shM kb_M_take 5 RX7 (some .long) 0 0 0 false false 69 (kd_M_take_69b kh_69) :=
  sd_iload (pc := 69) (kt_tab_get kx_M_take 38 rfl) <|
  sd_aload_n (pc := 71) (kt_tab_get kx_M_take 39 rfl) rfl <|
  sd_get (pc := 72) (k := 12) (ci := 7) kt_hc7 kt_hin7 (by decide) (kt_tab_get kx_M_take 40 rfl) (kg_M_take_in _ (List.mem_of_getElem? (i := 4) rfl)) <|
  sd_icmp_ge (pc := 75) (tgt := 100) (kt_tab_get kx_M_take 41 rfl) rfl (sd_drop (k := 4) kz_M_take_100) (kz_M_take_78 zh_69)
noncomputable def kd_M_take_69 (n : Nat) : kt_D := Nat.rec (fun _ _ _ => none) (fun _ ih => kd_M_take_69b ih) n
theorem kz_M_take_69 (n : Nat) : kt_Snd l kt_shM kb_M_take 5 RX7 (some .long) 0 0 0 false false 69 (kd_M_take_69 n) := by
  induction n with
  | zero => exact sd_fail
  | succ n ih => exact kz_M_take_69b ih
noncomputable def kd_M_take_66 : kt_D := ki_iload 1 <| ki_istore 4 <| (kd_M_take_69 100)
theorem kz_M_take_66 : kt_Snd l kt_shM kb_M_take 5 RX7 (some .long) 0 0 0 false false 66 kd_M_take_66 :=
  sd_iload_n (pc := 66) (kt_tab_get kx_M_take 36 rfl) rfl <|
  sd_istore (pc := 67) (kt_tab_get kx_M_take 37 rfl) (by decide) <|
  (kz_M_take_69 100)
noncomputable def kd_M_take_46 (kh_40 : kt_D) : kt_D := ki_lload 2 <| ki_push (.int 8) <| ki_lshl <| ki_aload 0 <| ki_get kt_shM 7 11 <| ki_iload 4 <| ki_iald kt_shM <| ki_i2l <| ki_lor <| ki_lstore 2 <| ki_iinc 4 1 <| kh_40
theorem kz_M_take_46 {kh_40 : kt_D} (zh_40 : kt_Snd l kt_shM kb_M_take 5 RX7 (some .long) 0 0 0 false false 40 kh_40) : kt_Snd l kt_shM kb_M_take 5 RX7 (some .long) 0 0 0 false false 46 (kd_M_take_46 kh_40) :=
  sd_lload_n (pc := 46) (kt_tab_get kx_M_take 24 rfl) rfl <|
  sd_bipush (pc := 47) (kt_tab_get kx_M_take 25 rfl) kc_b_8 <|
  sd_lshl (pc := 49) (kt_tab_get kx_M_take 26 rfl) <|
  sd_aload_n (pc := 50) (kt_tab_get kx_M_take 27 rfl) rfl <|
  sd_get (pc := 51) (k := 11) (ci := 7) kt_hc7 kt_hin7 (by decide) (kt_tab_get kx_M_take 28 rfl) (kg_M_take_in _ (List.mem_of_getElem? (i := 5) rfl)) <|
  sd_iload (pc := 54) (kt_tab_get kx_M_take 29 rfl) <|
  sd_iald (pc := 56) (kt_tab_get kx_M_take 30 rfl) <|
  sd_i2l (pc := 57) (kt_tab_get kx_M_take 31 rfl) <|
  sd_lor (pc := 58) (kt_tab_get kx_M_take 32 rfl) <|
  sd_lstore_n (pc := 59) (kt_tab_get kx_M_take 33 rfl) rfl (by decide) <|
  sd_iinc (pc := 60) (kt_tab_get kx_M_take 34 rfl) kc_i_1 (by decide) <|
  sd_goto (pc := 63) (tgt := 40) (kt_tab_get kx_M_take 35 rfl) rfl zh_40
noncomputable def kd_M_take_40b (kh_40 : kt_D) : kt_D := ki_iload 4 <| ki_iload 1 <| ki_icmp_ge (ki_drop 4 kd_M_take_66) (kd_M_take_46 kh_40)
theorem kz_M_take_40b {kh_40 : kt_D} (zh_40 : kt_Snd l kt_shM kb_M_take 5 RX7 (some .long) 0 0 0 false false 40 kh_40) : kt_Snd l kt_shM kb_M_take 5 RX7 (some .long) 0 0 0 false false 40 (kd_M_take_40b kh_40) :=
  sd_iload (pc := 40) (kt_tab_get kx_M_take 21 rfl) <|
  sd_iload_n (pc := 42) (kt_tab_get kx_M_take 22 rfl) rfl <|
  sd_icmp_ge (pc := 43) (tgt := 66) (kt_tab_get kx_M_take 23 rfl) rfl (sd_drop (k := 4) kz_M_take_66) (kz_M_take_46 zh_40)
noncomputable def kd_M_take_40 (n : Nat) : kt_D := Nat.rec (fun _ _ _ => none) (fun _ ih => kd_M_take_40b ih) n
theorem kz_M_take_40 (n : Nat) : kt_Snd l kt_shM kb_M_take 5 RX7 (some .long) 0 0 0 false false 40 (kd_M_take_40 n) := by
  induction n with
  | zero => exact sd_fail
  | succ n ih => exact kz_M_take_40b ih
noncomputable def kd_M_take_34 : kt_D := ki_istore 1 <| ki_push (.long 0) <| ki_lstore 2 <| ki_push (.int 0) <| ki_istore 4 <| (kd_M_take_40 100)
theorem kz_M_take_34 : kt_Snd l kt_shM kb_M_take 5 RX7 (some .long) 0 0 0 false false 34 kd_M_take_34 :=
  sd_istore_n (pc := 34) (kt_tab_get kx_M_take 16 rfl) rfl (by decide) <|
  sd_lconst (pc := 35) (kt_tab_get kx_M_take 17 rfl) kc_l_0 <|
  sd_lstore_n (pc := 36) (kt_tab_get kx_M_take 18 rfl) rfl (by decide) <|
  sd_iconst (pc := 37) (kt_tab_get kx_M_take 19 rfl) kc_i_0 <|
  sd_istore (pc := 38) (kt_tab_get kx_M_take 20 rfl) (by decide) <|
  (kz_M_take_40 100)
noncomputable def kd_M_take_32 : kt_D := ki_push (.int 8) <| kd_M_take_34
theorem kz_M_take_32 : kt_Snd l kt_shM kb_M_take 5 RX7 (some .long) 0 0 0 false false 32 kd_M_take_32 :=
  sd_bipush (pc := 32) (kt_tab_get kx_M_take 15 rfl) kc_b_8 <|
  kz_M_take_34
noncomputable def kd_M_take_25 : kt_D := ki_aload 0 <| ki_get kt_shM 7 12 <| kd_M_take_34
theorem kz_M_take_25 : kt_Snd l kt_shM kb_M_take 5 RX7 (some .long) 0 0 0 false false 25 kd_M_take_25 :=
  sd_aload_n (pc := 25) (kt_tab_get kx_M_take 12 rfl) rfl <|
  sd_get (pc := 26) (k := 12) (ci := 7) kt_hc7 kt_hin7 (by decide) (kt_tab_get kx_M_take 13 rfl) (kg_M_take_in _ (List.mem_of_getElem? (i := 4) rfl)) <|
  sd_goto (pc := 29) (tgt := 34) (kt_tab_get kx_M_take 14 rfl) rfl kz_M_take_34
noncomputable def kd_M_take_13 : kt_D := ki_put kt_shM 7 0 0 <| ki_aload 0 <| ki_get kt_shM 7 12 <| ki_push (.int 8) <| ki_icmp_ge kd_M_take_32 kd_M_take_25
theorem kz_M_take_13 : kt_Snd l kt_shM kb_M_take 5 RX7 (some .long) 0 0 0 false false 13 kd_M_take_13 :=
  sd_put (pc := 13) (k := 0) (ci := 7) kt_hc7 kt_hin7 tyX7_ok nmX7 (by decide) rfl rfl (Or.inl ⟨rfl, rfl⟩) (kt_tab_get kx_M_take 7 rfl) (kg_M_take_in _ (List.mem_of_getElem? (i := 6) rfl)) <|
  sd_aload_n (pc := 16) (kt_tab_get kx_M_take 8 rfl) rfl <|
  sd_get (pc := 17) (k := 12) (ci := 7) kt_hc7 kt_hin7 (by decide) (kt_tab_get kx_M_take 9 rfl) (kg_M_take_in _ (List.mem_of_getElem? (i := 4) rfl)) <|
  sd_bipush (pc := 20) (kt_tab_get kx_M_take 10 rfl) kc_b_8 <|
  sd_icmp_ge (pc := 22) (tgt := 32) (kt_tab_get kx_M_take 11 rfl) rfl kz_M_take_32 kz_M_take_25
noncomputable def kd_M_take_12 : kt_D := ki_push (.int 0) <| kd_M_take_13
theorem kz_M_take_12 : kt_Snd l kt_shM kb_M_take 5 RX7 (some .long) 0 0 0 false false 12 kd_M_take_12 :=
  sd_iconst (pc := 12) (kt_tab_get kx_M_take 6 rfl) kc_i_0 <|
  kz_M_take_13
noncomputable def kd_M_take_8 : kt_D := ki_push (.int 1) <| kd_M_take_13
theorem kz_M_take_8 : kt_Snd l kt_shM kb_M_take 5 RX7 (some .long) 0 0 0 false false 8 kd_M_take_8 :=
  sd_iconst (pc := 8) (kt_tab_get kx_M_take 4 rfl) kc_i_1 <|
  sd_goto (pc := 9) (tgt := 13) (kt_tab_get kx_M_take 5 rfl) rfl kz_M_take_13
noncomputable def kd_M_take_0 : kt_D := ki_aload 0 <| ki_aload 0 <| ki_get kt_shM 7 12 <| ki_if_ne kd_M_take_12 kd_M_take_8
theorem kz_M_take_0 : kt_Snd l kt_shM kb_M_take 5 RX7 (some .long) 0 0 0 false false 0 kd_M_take_0 :=
  sd_aload_n (pc := 0) (kt_tab_get kx_M_take 0 rfl) rfl <|
  sd_aload_n (pc := 1) (kt_tab_get kx_M_take 1 rfl) rfl <|
  sd_get (pc := 2) (k := 12) (ci := 7) kt_hc7 kt_hin7 (by decide) (kt_tab_get kx_M_take 2 rfl) (kg_M_take_in _ (List.mem_of_getElem? (i := 4) rfl)) <|
  sd_if_ne (pc := 5) (tgt := 12) (kt_tab_get kx_M_take 3 rfl) rfl kz_M_take_12 kz_M_take_8
noncomputable def kf_M_take : kt_F := kt_run 5 kd_M_take_0
theorem km_M_take : kt_M l kt_shM ky_M_take kb_M_take 5 (some .long) 0 false kf_M_take := kt_method (by decide) rfl kz_M_take_0
noncomputable def kd_M_power_30 : kt_D := ki_push (.int 1) <| ki_zret
theorem kz_M_power_30 : kt_Snd l kt_shM kb_M_power 2 RX7 (some .boolean) 2 0 0 false false 30 kd_M_power_30 :=
  sd_iconst (pc := 30) (kt_tab_get kx_M_power 16 rfl) kc_i_1 <|
  sd_zret (pc := 31) rfl (by decide) (kt_tab_get kx_M_power 17 rfl)
noncomputable def kd_M_power_26 : kt_D := ki_aload 0 <| ki_callV kt_shM 7 0 kf_M_off <| (ki_drop 0 kd_M_power_30)
theorem kz_M_power_26 : kt_Snd l kt_shM kb_M_power 2 RX7 (some .boolean) 2 0 0 false false 26 kd_M_power_26 :=
  sd_aload_n (pc := 26) (kt_tab_get kx_M_power 14 rfl) rfl <|
  sd_callV (pc := 27) km_M_off (by decide) kv_M_off (ci := 7) kt_hc7 (by decide) (kt_tab_get kx_M_power 15 rfl) (kg_M_power_in _ (List.mem_of_getElem? (i := 4) rfl)) <|
  (sd_drop (k := 0) kz_M_power_30)
noncomputable def kd_M_power_19 : kt_D := ki_aload 0 <| ki_callV kt_shM 7 0 kf_M_comeUp <| (ki_drop 0 kd_M_power_30)
theorem kz_M_power_19 : kt_Snd l kt_shM kb_M_power 2 RX7 (some .boolean) 2 0 0 false false 19 kd_M_power_19 :=
  sd_aload_n (pc := 19) (kt_tab_get kx_M_power 11 rfl) rfl <|
  sd_callV (pc := 20) km_M_comeUp (by decide) kv_M_comeUp (ci := 7) kt_hc7 (by decide) (kt_tab_get kx_M_power 12 rfl) (kg_M_power_in _ (List.mem_of_getElem? (i := 5) rfl)) <|
  sd_goto (pc := 23) (tgt := 30) (kt_tab_get kx_M_power 13 rfl) rfl (sd_drop (k := 0) kz_M_power_30)
noncomputable def kd_M_power_15 : kt_D := ki_iload 1 <| ki_if_eq (ki_drop 1 kd_M_power_26) (ki_drop 1 kd_M_power_19)
theorem kz_M_power_15 : kt_Snd l kt_shM kb_M_power 2 RX7 (some .boolean) 2 0 0 false false 15 kd_M_power_15 :=
  sd_iload_n (pc := 15) (kt_tab_get kx_M_power 9 rfl) rfl <|
  sd_if_eq (pc := 16) (tgt := 26) (kt_tab_get kx_M_power 10 rfl) rfl (sd_drop (k := 1) kz_M_power_26) (sd_drop (k := 1) kz_M_power_19)
noncomputable def kd_M_power_13 : kt_D := ki_push (.int 0) <| ki_zret
theorem kz_M_power_13 : kt_Snd l kt_shM kb_M_power 2 RX7 (some .boolean) 2 0 0 false false 13 kd_M_power_13 :=
  sd_iconst (pc := 13) (kt_tab_get kx_M_power 7 rfl) kc_i_0 <|
  sd_zret (pc := 14) rfl (by decide) (kt_tab_get kx_M_power 8 rfl)
noncomputable def kd_M_power_0 : kt_D := ki_aload 0 <| ki_push (.int 0) <| ki_put kt_shM 7 0 0 <| ki_iload 1 <| ki_aload 0 <| ki_get kt_shM 7 5 <| ki_icmp_ne kd_M_power_15 (ki_drop 1 (ki_drop 0 kd_M_power_13))
theorem kz_M_power_0 : kt_Snd l kt_shM kb_M_power 2 RX7 (some .boolean) 2 0 0 false false 0 kd_M_power_0 :=
  sd_aload_n (pc := 0) (kt_tab_get kx_M_power 0 rfl) rfl <|
  sd_iconst (pc := 1) (kt_tab_get kx_M_power 1 rfl) kc_i_0 <|
  sd_put (pc := 2) (k := 0) (ci := 7) kt_hc7 kt_hin7 tyX7_ok nmX7 (by decide) rfl rfl (Or.inl ⟨rfl, rfl⟩) (kt_tab_get kx_M_power 2 rfl) (kg_M_power_in _ (List.mem_of_getElem? (i := 6) rfl)) <|
  sd_iload_n (pc := 5) (kt_tab_get kx_M_power 3 rfl) rfl <|
  sd_aload_n (pc := 6) (kt_tab_get kx_M_power 4 rfl) rfl <|
  sd_get (pc := 7) (k := 5) (ci := 7) kt_hc7 kt_hin7 (by decide) (kt_tab_get kx_M_power 5 rfl) (kg_M_power_in _ (List.mem_of_getElem? (i := 7) rfl)) <|
  sd_icmp_ne (pc := 10) (tgt := 15) (kt_tab_get kx_M_power 6 rfl) rfl kz_M_power_15 (sd_drop (k := 1) (sd_drop (k := 0) kz_M_power_13))
noncomputable def kf_M_power : kt_F := kt_run 2 kd_M_power_0
theorem km_M_power : kt_M l kt_shM ky_M_power kb_M_power 2 (some .boolean) 2 false kf_M_power := kt_method (by decide) rfl kz_M_power_0
noncomputable def kd_M_cut_16 : kt_D := ki_push (.int 0) <| ki_zret
theorem kz_M_cut_16 : kt_Snd l kt_shM kb_M_cut 2 RX7 (some .boolean) 0 0 0 false false 16 kd_M_cut_16 :=
  sd_iconst (pc := 16) (kt_tab_get kx_M_cut 8 rfl) kc_i_0 <|
  sd_zret (pc := 17) rfl (by decide) (kt_tab_get kx_M_cut 9 rfl)
noncomputable def kd_M_cut_18 : kt_D := ki_aload 0 <| ki_iload 1 <| ki_put kt_shM 7 4 0 <| ki_push (.int 1) <| ki_zret
theorem kz_M_cut_18 : kt_Snd l kt_shM kb_M_cut 2 RX7 (some .boolean) 0 0 0 false false 18 kd_M_cut_18 :=
  sd_aload_n (pc := 18) (kt_tab_get kx_M_cut 10 rfl) rfl <|
  sd_iload_n (pc := 19) (kt_tab_get kx_M_cut 11 rfl) rfl <|
  sd_put (pc := 20) (k := 4) (ci := 7) kt_hc7 kt_hin7 tyX7_ok nmX7 (by decide) rfl rfl (Or.inl ⟨rfl, rfl⟩) (kt_tab_get kx_M_cut 12 rfl) (kg_M_cut_in _ (List.mem_of_getElem? (i := 4) rfl)) <|
  sd_iconst (pc := 23) (kt_tab_get kx_M_cut 13 rfl) kc_i_1 <|
  sd_zret (pc := 24) rfl (by decide) (kt_tab_get kx_M_cut 14 rfl)
noncomputable def kd_M_cut_9 : kt_D := ki_aload 0 <| ki_get kt_shM 7 5 <| ki_if_ne kd_M_cut_18 (ki_drop 1 (ki_drop 0 kd_M_cut_16))
theorem kz_M_cut_9 : kt_Snd l kt_shM kb_M_cut 2 RX7 (some .boolean) 0 0 0 false false 9 kd_M_cut_9 :=
  sd_aload_n (pc := 9) (kt_tab_get kx_M_cut 5 rfl) rfl <|
  sd_get (pc := 10) (k := 5) (ci := 7) kt_hc7 kt_hin7 (by decide) (kt_tab_get kx_M_cut 6 rfl) (kg_M_cut_in _ (List.mem_of_getElem? (i := 5) rfl)) <|
  sd_if_ne (pc := 13) (tgt := 18) (kt_tab_get kx_M_cut 7 rfl) rfl kz_M_cut_18 (sd_drop (k := 1) (sd_drop (k := 0) kz_M_cut_16))
noncomputable def kd_M_cut_0 : kt_D := ki_aload 0 <| ki_push (.int 0) <| ki_put kt_shM 7 0 0 <| ki_iload 1 <| ki_if_lt (ki_drop 1 (ki_drop 0 kd_M_cut_16)) kd_M_cut_9
theorem kz_M_cut_0 : kt_Snd l kt_shM kb_M_cut 2 RX7 (some .boolean) 0 0 0 false false 0 kd_M_cut_0 :=
  sd_aload_n (pc := 0) (kt_tab_get kx_M_cut 0 rfl) rfl <|
  sd_iconst (pc := 1) (kt_tab_get kx_M_cut 1 rfl) kc_i_0 <|
  sd_put (pc := 2) (k := 0) (ci := 7) kt_hc7 kt_hin7 tyX7_ok nmX7 (by decide) rfl rfl (Or.inl ⟨rfl, rfl⟩) (kt_tab_get kx_M_cut 2 rfl) (kg_M_cut_in _ (List.mem_of_getElem? (i := 6) rfl)) <|
  sd_iload_n (pc := 5) (kt_tab_get kx_M_cut 3 rfl) rfl <|
  sd_if_lt (pc := 6) (tgt := 16) (kt_tab_get kx_M_cut 4 rfl) rfl (sd_drop (k := 1) (sd_drop (k := 0) kz_M_cut_16)) kz_M_cut_9
noncomputable def kf_M_cut : kt_F := kt_run 2 kd_M_cut_0
theorem km_M_cut : kt_M l kt_shM ky_M_cut kb_M_cut 2 (some .boolean) 0 false kf_M_cut := kt_method (by decide) rfl kz_M_cut_0
noncomputable def kd_M_isParty_14 : kt_D := ki_zret
theorem kz_M_isParty_14 : kt_Snd l kt_shM kb_M_isParty 1 RX7 (some .boolean) 0 0 0 true true 14 kd_M_isParty_14 :=
  sd_zret (pc := 14) rfl (by decide) (kt_tab_get kx_M_isParty 8 rfl)
noncomputable def kd_M_isParty_13 : kt_D := ki_push (.int 0) <| kd_M_isParty_14
theorem kz_M_isParty_13 : kt_Snd l kt_shM kb_M_isParty 1 RX7 (some .boolean) 0 0 0 true true 13 kd_M_isParty_13 :=
  sd_iconst (pc := 13) (kt_tab_get kx_M_isParty 7 rfl) kc_i_0 <|
  kz_M_isParty_14
noncomputable def kd_M_isParty_9 : kt_D := ki_push (.int 1) <| kd_M_isParty_14
theorem kz_M_isParty_9 : kt_Snd l kt_shM kb_M_isParty 1 RX7 (some .boolean) 0 0 0 true true 9 kd_M_isParty_9 :=
  sd_iconst (pc := 9) (kt_tab_get kx_M_isParty 5 rfl) kc_i_1 <|
  sd_goto (pc := 10) (tgt := 14) (kt_tab_get kx_M_isParty 6 rfl) rfl kz_M_isParty_14
noncomputable def kd_M_isParty_4 : kt_D := ki_iload 0 <| ki_push (.int 4) <| ki_icmp_ge (ki_drop 0 kd_M_isParty_13) (ki_drop 0 kd_M_isParty_9)
theorem kz_M_isParty_4 : kt_Snd l kt_shM kb_M_isParty 1 RX7 (some .boolean) 0 0 0 true true 4 kd_M_isParty_4 :=
  sd_iload_n (pc := 4) (kt_tab_get kx_M_isParty 2 rfl) rfl <|
  sd_iconst (pc := 5) (kt_tab_get kx_M_isParty 3 rfl) kc_i_4 <|
  sd_icmp_ge (pc := 6) (tgt := 13) (kt_tab_get kx_M_isParty 4 rfl) rfl (sd_drop (k := 0) kz_M_isParty_13) (sd_drop (k := 0) kz_M_isParty_9)
noncomputable def kd_M_isParty_0 : kt_D := ki_iload 0 <| ki_if_lt (ki_drop 0 kd_M_isParty_13) kd_M_isParty_4
theorem kz_M_isParty_0 : kt_Snd l kt_shM kb_M_isParty 1 RX7 (some .boolean) 0 0 0 true true 0 kd_M_isParty_0 :=
  sd_iload_n (pc := 0) (kt_tab_get kx_M_isParty 0 rfl) rfl <|
  sd_if_lt (pc := 1) (tgt := 13) (kt_tab_get kx_M_isParty 1 rfl) rfl (sd_drop (k := 0) kz_M_isParty_13) kz_M_isParty_4
noncomputable def kf_M_isParty : kt_F := kt_run 1 kd_M_isParty_0
theorem km_M_isParty : kt_M l kt_shM ky_M_isParty kb_M_isParty 1 (some .boolean) 0 true kf_M_isParty := kt_method (by decide) rfl kz_M_isParty_0
noncomputable def kd_M_open_35 : kt_D := ki_aload 0 <| ki_dup <| ki_get kt_shM 7 20 <| ki_push (.int 1) <| ki_iadd <| ki_put kt_shM 7 20 0 <| ki_aload 0 <| ki_get kt_shM 7 38 <| ki_iload 1 <| ki_aload 0 <| ki_get kt_shM 7 20 <| ki_iast kt_shM <| ki_aload 0 <| ki_get kt_shM 7 39 <| ki_iload 1 <| ki_iload 2 <| ki_iast kt_shM <| ki_aload 0 <| ki_get kt_shM 7 20 <| ki_iret
theorem kz_M_open_35 : kt_Snd l kt_shM kb_M_open 3 RX7 (some .int) 1 0 0 false false 35 kd_M_open_35 :=
  sd_aload_n (pc := 35) (kt_tab_get kx_M_open 18 rfl) rfl <|
  sd_dup (pc := 36) (kt_tab_get kx_M_open 19 rfl) <|
  sd_get (pc := 37) (k := 20) (ci := 7) kt_hc7 kt_hin7 (by decide) (kt_tab_get kx_M_open 20 rfl) (kg_M_open_in _ (List.mem_of_getElem? (i := 4) rfl)) <|
  sd_iconst (pc := 40) (kt_tab_get kx_M_open 21 rfl) kc_i_1 <|
  sd_iadd (pc := 41) (kt_tab_get kx_M_open 22 rfl) <|
  sd_put (pc := 42) (k := 20) (ci := 7) kt_hc7 kt_hin7 tyX7_ok nmX7 (by decide) rfl rfl (Or.inl ⟨rfl, rfl⟩) (kt_tab_get kx_M_open 23 rfl) (kg_M_open_in _ (List.mem_of_getElem? (i := 4) rfl)) <|
  sd_aload_n (pc := 45) (kt_tab_get kx_M_open 24 rfl) rfl <|
  sd_get (pc := 46) (k := 38) (ci := 7) kt_hc7 kt_hin7 (by decide) (kt_tab_get kx_M_open 25 rfl) (kg_M_open_in _ (List.mem_of_getElem? (i := 5) rfl)) <|
  sd_iload_n (pc := 49) (kt_tab_get kx_M_open 26 rfl) rfl <|
  sd_aload_n (pc := 50) (kt_tab_get kx_M_open 27 rfl) rfl <|
  sd_get (pc := 51) (k := 20) (ci := 7) kt_hc7 kt_hin7 (by decide) (kt_tab_get kx_M_open 28 rfl) (kg_M_open_in _ (List.mem_of_getElem? (i := 4) rfl)) <|
  sd_iast (pc := 54) (kt_tab_get kx_M_open 29 rfl) <|
  sd_aload_n (pc := 55) (kt_tab_get kx_M_open 30 rfl) rfl <|
  sd_get (pc := 56) (k := 39) (ci := 7) kt_hc7 kt_hin7 (by decide) (kt_tab_get kx_M_open 31 rfl) (kg_M_open_in _ (List.mem_of_getElem? (i := 6) rfl)) <|
  sd_iload_n (pc := 59) (kt_tab_get kx_M_open 32 rfl) rfl <|
  sd_iload_n (pc := 60) (kt_tab_get kx_M_open 33 rfl) rfl <|
  sd_iast (pc := 61) (kt_tab_get kx_M_open 34 rfl) <|
  sd_aload_n (pc := 62) (kt_tab_get kx_M_open 35 rfl) rfl <|
  sd_get (pc := 63) (k := 20) (ci := 7) kt_hc7 kt_hin7 (by decide) (kt_tab_get kx_M_open 36 rfl) (kg_M_open_in _ (List.mem_of_getElem? (i := 4) rfl)) <|
  sd_iret (pc := 66) rfl (by decide) (kt_tab_get kx_M_open 37 rfl)
noncomputable def kd_M_open_33 : kt_D := ki_push (.int 0) <| ki_iret
theorem kz_M_open_33 : kt_Snd l kt_shM kb_M_open 3 RX7 (some .int) 1 0 0 false false 33 kd_M_open_33 :=
  sd_iconst (pc := 33) (kt_tab_get kx_M_open 16 rfl) kc_i_0 <|
  sd_iret (pc := 34) rfl (by decide) (kt_tab_get kx_M_open 17 rfl)
noncomputable def kd_M_open_23 : kt_D := ki_put kt_shM 7 0 0 <| ki_aload 0 <| ki_get kt_shM 7 0 <| ki_if_le kd_M_open_35 (ki_drop 2 (ki_drop 1 (ki_drop 0 kd_M_open_33)))
theorem kz_M_open_23 : kt_Snd l kt_shM kb_M_open 3 RX7 (some .int) 1 0 0 false false 23 kd_M_open_23 :=
  sd_put (pc := 23) (k := 0) (ci := 7) kt_hc7 kt_hin7 tyX7_ok nmX7 (by decide) rfl rfl (Or.inl ⟨rfl, rfl⟩) (kt_tab_get kx_M_open 12 rfl) (kg_M_open_in _ (List.mem_of_getElem? (i := 7) rfl)) <|
  sd_aload_n (pc := 26) (kt_tab_get kx_M_open 13 rfl) rfl <|
  sd_get (pc := 27) (k := 0) (ci := 7) kt_hc7 kt_hin7 (by decide) (kt_tab_get kx_M_open 14 rfl) (kg_M_open_in _ (List.mem_of_getElem? (i := 7) rfl)) <|
  sd_if_le (pc := 30) (tgt := 35) (kt_tab_get kx_M_open 15 rfl) rfl kz_M_open_35 (sd_drop (k := 2) (sd_drop (k := 1) (sd_drop (k := 0) kz_M_open_33)))
noncomputable def kd_M_open_18 : kt_D := ki_push (.int 1) <| kd_M_open_23
theorem kz_M_open_18 : kt_Snd l kt_shM kb_M_open 3 RX7 (some .int) 1 0 0 false false 18 kd_M_open_18 :=
  sd_iconst (pc := 18) (kt_tab_get kx_M_open 9 rfl) kc_i_1 <|
  sd_goto (pc := 19) (tgt := 23) (kt_tab_get kx_M_open 10 rfl) rfl kz_M_open_23
noncomputable def kd_M_open_22 : kt_D := ki_push (.int 0) <| kd_M_open_23
theorem kz_M_open_22 : kt_Snd l kt_shM kb_M_open 3 RX7 (some .int) 1 0 0 false false 22 kd_M_open_22 :=
  sd_iconst (pc := 22) (kt_tab_get kx_M_open 11 rfl) kc_i_0 <|
  kz_M_open_23
noncomputable def kd_M_open_12 : kt_D := ki_iload 2 <| ki_push (.int 99) <| ki_icmp_le kd_M_open_22 kd_M_open_18
theorem kz_M_open_12 : kt_Snd l kt_shM kb_M_open 3 RX7 (some .int) 1 0 0 false false 12 kd_M_open_12 :=
  sd_iload_n (pc := 12) (kt_tab_get kx_M_open 6 rfl) rfl <|
  sd_bipush (pc := 13) (kt_tab_get kx_M_open 7 rfl) kc_b_99 <|
  sd_icmp_le (pc := 15) (tgt := 22) (kt_tab_get kx_M_open 8 rfl) rfl kz_M_open_22 kz_M_open_18
noncomputable def kd_M_open_8 : kt_D := ki_iload 2 <| ki_if_lt kd_M_open_18 kd_M_open_12
theorem kz_M_open_8 : kt_Snd l kt_shM kb_M_open 3 RX7 (some .int) 1 0 0 false false 8 kd_M_open_8 :=
  sd_iload_n (pc := 8) (kt_tab_get kx_M_open 4 rfl) rfl <|
  sd_if_lt (pc := 9) (tgt := 18) (kt_tab_get kx_M_open 5 rfl) rfl kz_M_open_18 kz_M_open_12
noncomputable def kd_M_open_0 : kt_D := ki_aload 0 <| ki_iload 1 <| ki_callS 1 kf_M_isParty <| ki_if_eq kd_M_open_18 kd_M_open_8
theorem kz_M_open_0 : kt_Snd l kt_shM kb_M_open 3 RX7 (some .int) 1 0 0 false false 0 kd_M_open_0 :=
  sd_aload_n (pc := 0) (kt_tab_get kx_M_open 0 rfl) rfl <|
  sd_iload_n (pc := 1) (kt_tab_get kx_M_open 1 rfl) rfl <|
  sd_callS (pc := 2) km_M_isParty (by decide) kv_M_isParty (by decide) (kt_tab_get kx_M_open 2 rfl) (kg_M_open_in _ (List.mem_of_getElem? (i := 8) rfl)) <|
  sd_if_eq (pc := 5) (tgt := 18) (kt_tab_get kx_M_open 3 rfl) rfl kz_M_open_18 kz_M_open_8
noncomputable def kf_M_open : kt_F := kt_run 3 kd_M_open_0
theorem km_M_open : kt_M l kt_shM ky_M_open kb_M_open 3 (some .int) 1 false kf_M_open := kt_method (by decide) rfl kz_M_open_0
noncomputable def kd_M_in_0 : kt_D := ki_aload 0 <| ki_get kt_shM 7 9 <| ki_aload 0 <| ki_get kt_shM 7 10 <| ki_iload 1 <| ki_iast kt_shM <| ki_aload 0 <| ki_dup <| ki_get kt_shM 7 10 <| ki_push (.int 1) <| ki_iadd <| ki_put kt_shM 7 10 0 <| ki_vret
theorem kz_M_in_0 : kt_Snd l kt_shM kb_M_in 2 RX7 none 0 0 0 false false 0 kd_M_in_0 :=
  sd_aload_n (pc := 0) (kt_tab_get kx_M_in 0 rfl) rfl <|
  sd_get (pc := 1) (k := 9) (ci := 7) kt_hc7 kt_hin7 (by decide) (kt_tab_get kx_M_in 1 rfl) (kg_M_in_in _ (List.mem_of_getElem? (i := 4) rfl)) <|
  sd_aload_n (pc := 4) (kt_tab_get kx_M_in 2 rfl) rfl <|
  sd_get (pc := 5) (k := 10) (ci := 7) kt_hc7 kt_hin7 (by decide) (kt_tab_get kx_M_in 3 rfl) (kg_M_in_in _ (List.mem_of_getElem? (i := 5) rfl)) <|
  sd_iload_n (pc := 8) (kt_tab_get kx_M_in 4 rfl) rfl <|
  sd_iast (pc := 9) (kt_tab_get kx_M_in 5 rfl) <|
  sd_aload_n (pc := 10) (kt_tab_get kx_M_in 6 rfl) rfl <|
  sd_dup (pc := 11) (kt_tab_get kx_M_in 7 rfl) <|
  sd_get (pc := 12) (k := 10) (ci := 7) kt_hc7 kt_hin7 (by decide) (kt_tab_get kx_M_in 8 rfl) (kg_M_in_in _ (List.mem_of_getElem? (i := 5) rfl)) <|
  sd_iconst (pc := 15) (kt_tab_get kx_M_in 9 rfl) kc_i_1 <|
  sd_iadd (pc := 16) (kt_tab_get kx_M_in 10 rfl) <|
  sd_put (pc := 17) (k := 10) (ci := 7) kt_hc7 kt_hin7 tyX7_ok nmX7 (by decide) rfl rfl (Or.inl ⟨rfl, rfl⟩) (kt_tab_get kx_M_in 11 rfl) (kg_M_in_in _ (List.mem_of_getElem? (i := 5) rfl)) <|
  sd_vret (pc := 20) rfl (by decide) (kt_tab_get kx_M_in 12 rfl)
noncomputable def kf_M_in : kt_F := kt_run 2 kd_M_in_0
theorem km_M_in : kt_M l kt_shM ky_M_in kb_M_in 2 none 0 false kf_M_in := kt_method (by decide) rfl kz_M_in_0
noncomputable def kd_M_inPair_49 : kt_D := ki_aload 0 <| ki_iload 3 <| ki_put kt_shM 7 12 0 <| ki_vret
theorem kz_M_inPair_49 : kt_Snd l kt_shM kb_M_inPair 5 RX7 none 2 0 0 false false 49 kd_M_inPair_49 :=
  sd_aload_n (pc := 49) (kt_tab_get kx_M_inPair 26 rfl) rfl <|
  sd_iload_n (pc := 50) (kt_tab_get kx_M_inPair 27 rfl) rfl <|
  sd_put (pc := 51) (k := 12) (ci := 7) kt_hc7 kt_hin7 tyX7_ok nmX7 (by decide) rfl rfl (Or.inl ⟨rfl, rfl⟩) (kt_tab_get kx_M_inPair 28 rfl) (kg_M_inPair_in _ (List.mem_of_getElem? (i := 4) rfl)) <|
  sd_vret (pc := 54) rfl (by decide) (kt_tab_get kx_M_inPair 29 rfl)
noncomputable def kd_M_inPair_32 (kh_23 : kt_D) : kt_D := ki_aload 0 <| ki_aload 0 <| ki_get kt_shM 7 11 <| ki_iload 4 <| ki_iald kt_shM <| ki_callV kt_shM 7 1 kf_M_in <| ki_iinc 4 1 <| kh_23
theorem kz_M_inPair_32 {kh_23 : kt_D} (zh_23 : kt_Snd l kt_shM kb_M_inPair 5 RX7 none 2 0 0 false false 23 kh_23) : kt_Snd l kt_shM kb_M_inPair 5 RX7 none 2 0 0 false false 32 (kd_M_inPair_32 kh_23) :=
  sd_aload_n (pc := 32) (kt_tab_get kx_M_inPair 18 rfl) rfl <|
  sd_aload_n (pc := 33) (kt_tab_get kx_M_inPair 19 rfl) rfl <|
  sd_get (pc := 34) (k := 11) (ci := 7) kt_hc7 kt_hin7 (by decide) (kt_tab_get kx_M_inPair 20 rfl) (kg_M_inPair_in _ (List.mem_of_getElem? (i := 5) rfl)) <|
  sd_iload (pc := 37) (kt_tab_get kx_M_inPair 21 rfl) <|
  sd_iald (pc := 39) (kt_tab_get kx_M_inPair 22 rfl) <|
  sd_callV (pc := 40) km_M_in (by decide) kv_M_in (ci := 7) kt_hc7 (by decide) (kt_tab_get kx_M_inPair 23 rfl) (kg_M_inPair_in _ (List.mem_of_getElem? (i := 6) rfl)) <|
  sd_iinc (pc := 43) (kt_tab_get kx_M_inPair 24 rfl) kc_i_1 (by decide) <|
  sd_goto (pc := 46) (tgt := 23) (kt_tab_get kx_M_inPair 25 rfl) rfl zh_23
noncomputable def kd_M_inPair_23b (kh_23 : kt_D) : kt_D := ki_iload 4 <| ki_aload 0 <| ki_get kt_shM 7 12 <| ki_icmp_ge (ki_drop 4 kd_M_inPair_49) (kd_M_inPair_32 kh_23)
theorem kz_M_inPair_23b {kh_23 : kt_D} (zh_23 : kt_Snd l kt_shM kb_M_inPair 5 RX7 none 2 0 0 false false 23 kh_23) : kt_Snd l kt_shM kb_M_inPair 5 RX7 none 2 0 0 false false 23 (kd_M_inPair_23b kh_23) :=
  sd_iload (pc := 23) (kt_tab_get kx_M_inPair 14 rfl) <|
  sd_aload_n (pc := 25) (kt_tab_get kx_M_inPair 15 rfl) rfl <|
  sd_get (pc := 26) (k := 12) (ci := 7) kt_hc7 kt_hin7 (by decide) (kt_tab_get kx_M_inPair 16 rfl) (kg_M_inPair_in _ (List.mem_of_getElem? (i := 4) rfl)) <|
  sd_icmp_ge (pc := 29) (tgt := 49) (kt_tab_get kx_M_inPair 17 rfl) rfl (sd_drop (k := 4) kz_M_inPair_49) (kz_M_inPair_32 zh_23)
noncomputable def kd_M_inPair_23 (n : Nat) : kt_D := Nat.rec (fun _ _ _ => none) (fun _ ih => kd_M_inPair_23b ih) n
theorem kz_M_inPair_23 (n : Nat) : kt_Snd l kt_shM kb_M_inPair 5 RX7 none 2 0 0 false false 23 (kd_M_inPair_23 n) := by
  induction n with
  | zero => exact sd_fail
  | succ n ih => exact kz_M_inPair_23b ih
noncomputable def kd_M_inPair_0 : kt_D := ki_aload 0 <| ki_iload 1 <| ki_callV kt_shM 7 1 kf_M_in <| ki_aload 0 <| ki_get kt_shM 7 12 <| ki_istore 3 <| ki_aload 0 <| ki_push (.int 0) <| ki_put kt_shM 7 12 0 <| ki_aload 0 <| ki_iload 2 <| ki_callV kt_shM 7 1 kf_M_number <| ki_push (.int 0) <| ki_istore 4 <| (ki_drop 2 (ki_drop 1 (kd_M_inPair_23 100)))
theorem kz_M_inPair_0 : kt_Snd l kt_shM kb_M_inPair 5 RX7 none 2 0 0 false false 0 kd_M_inPair_0 :=
  sd_aload_n (pc := 0) (kt_tab_get kx_M_inPair 0 rfl) rfl <|
  sd_iload_n (pc := 1) (kt_tab_get kx_M_inPair 1 rfl) rfl <|
  sd_callV (pc := 2) km_M_in (by decide) kv_M_in (ci := 7) kt_hc7 (by decide) (kt_tab_get kx_M_inPair 2 rfl) (kg_M_inPair_in _ (List.mem_of_getElem? (i := 6) rfl)) <|
  sd_aload_n (pc := 5) (kt_tab_get kx_M_inPair 3 rfl) rfl <|
  sd_get (pc := 6) (k := 12) (ci := 7) kt_hc7 kt_hin7 (by decide) (kt_tab_get kx_M_inPair 4 rfl) (kg_M_inPair_in _ (List.mem_of_getElem? (i := 4) rfl)) <|
  sd_istore_n (pc := 9) (kt_tab_get kx_M_inPair 5 rfl) rfl (by decide) <|
  sd_aload_n (pc := 10) (kt_tab_get kx_M_inPair 6 rfl) rfl <|
  sd_iconst (pc := 11) (kt_tab_get kx_M_inPair 7 rfl) kc_i_0 <|
  sd_put (pc := 12) (k := 12) (ci := 7) kt_hc7 kt_hin7 tyX7_ok nmX7 (by decide) rfl rfl (Or.inl ⟨rfl, rfl⟩) (kt_tab_get kx_M_inPair 8 rfl) (kg_M_inPair_in _ (List.mem_of_getElem? (i := 4) rfl)) <|
  sd_aload_n (pc := 15) (kt_tab_get kx_M_inPair 9 rfl) rfl <|
  sd_iload_n (pc := 16) (kt_tab_get kx_M_inPair 10 rfl) rfl <|
  sd_callV (pc := 17) km_M_number (by decide) kv_M_number (ci := 7) kt_hc7 (by decide) (kt_tab_get kx_M_inPair 11 rfl) (kg_M_inPair_in _ (List.mem_of_getElem? (i := 7) rfl)) <|
  sd_iconst (pc := 20) (kt_tab_get kx_M_inPair 12 rfl) kc_i_0 <|
  sd_istore (pc := 21) (kt_tab_get kx_M_inPair 13 rfl) (by decide) <|
  (sd_drop (k := 2) (sd_drop (k := 1) (kz_M_inPair_23 100)))
noncomputable def kf_M_inPair : kt_F := kt_run 5 kd_M_inPair_0
theorem km_M_inPair : kt_M l kt_shM ky_M_inPair kb_M_inPair 5 none 2 false kf_M_inPair := kt_method (by decide) rfl kz_M_inPair_0
noncomputable def kd_M_judge_328 : kt_D := ki_aload 0 <| ki_get kt_shM 7 37 <| ki_push (.int 18) <| ki_iload 1 <| ki_imul <| ki_push (.int 3) <| ki_iload 12 <| ki_imul <| ki_iadd <| ki_push (.int 2) <| ki_iadd <| ki_iload 8 <| ki_iast kt_shM <| ki_aload 0 <| ki_get kt_shM 7 38 <| ki_iload 1 <| ki_push (.int 0) <| ki_iast kt_shM <| ki_push (.int 0) <| ki_iret
theorem kz_M_judge_328 : kt_Snd l kt_shM kb_M_judge 13 RX7 (some .int) 0 0 0 false false 328 kd_M_judge_328 :=
  sd_aload_n (pc := 328) (kt_tab_get kx_M_judge 198 rfl) rfl <|
  sd_get (pc := 329) (k := 37) (ci := 7) kt_hc7 kt_hin7 (by decide) (kt_tab_get kx_M_judge 199 rfl) (kg_M_judge_in _ (List.mem_of_getElem? (i := 4) rfl)) <|
  sd_bipush (pc := 332) (kt_tab_get kx_M_judge 200 rfl) kc_b_18 <|
  sd_iload_n (pc := 334) (kt_tab_get kx_M_judge 201 rfl) rfl <|
  sd_imul (pc := 335) (kt_tab_get kx_M_judge 202 rfl) <|
  sd_iconst (pc := 336) (kt_tab_get kx_M_judge 203 rfl) kc_i_3 <|
  sd_iload (pc := 337) (kt_tab_get kx_M_judge 204 rfl) <|
  sd_imul (pc := 339) (kt_tab_get kx_M_judge 205 rfl) <|
  sd_iadd (pc := 340) (kt_tab_get kx_M_judge 206 rfl) <|
  sd_iconst (pc := 341) (kt_tab_get kx_M_judge 207 rfl) kc_i_2 <|
  sd_iadd (pc := 342) (kt_tab_get kx_M_judge 208 rfl) <|
  sd_iload (pc := 343) (kt_tab_get kx_M_judge 209 rfl) <|
  sd_iast (pc := 345) (kt_tab_get kx_M_judge 210 rfl) <|
  sd_aload_n (pc := 346) (kt_tab_get kx_M_judge 211 rfl) rfl <|
  sd_get (pc := 347) (k := 38) (ci := 7) kt_hc7 kt_hin7 (by decide) (kt_tab_get kx_M_judge 212 rfl) (kg_M_judge_in _ (List.mem_of_getElem? (i := 5) rfl)) <|
  sd_iload_n (pc := 350) (kt_tab_get kx_M_judge 213 rfl) rfl <|
  sd_iconst (pc := 351) (kt_tab_get kx_M_judge 214 rfl) kc_i_0 <|
  sd_iast (pc := 352) (kt_tab_get kx_M_judge 215 rfl) <|
  sd_iconst (pc := 353) (kt_tab_get kx_M_judge 216 rfl) kc_i_0 <|
  sd_iret (pc := 354) rfl (by decide) (kt_tab_get kx_M_judge 217 rfl)
noncomputable def kd_M_judge_280 : kt_D := ki_aload 0 <| ki_get kt_shM 7 37 <| ki_push (.int 18) <| ki_iload 1 <| ki_imul <| ki_push (.int 3) <| ki_iload 12 <| ki_imul <| ki_iadd <| ki_iload 7 <| ki_iast kt_shM <| ki_aload 0 <| ki_get kt_shM 7 37 <| ki_push (.int 18) <| ki_iload 1 <| ki_imul <| ki_push (.int 3) <| ki_iload 12 <| ki_imul <| ki_iadd <| ki_push (.int 1) <| ki_iadd <| ki_aload 0 <| ki_get kt_shM 7 39 <| ki_iload 1 <| ki_iald kt_shM <| ki_iast kt_shM <| ki_aload 0 <| ki_get kt_shM 7 36 <| ki_iload 1 <| ki_dup2 <| ki_iald kt_shM <| ki_push (.int 1) <| ki_iadd <| ki_iast kt_shM <| (ki_drop 7 kd_M_judge_328)
theorem kz_M_judge_280 : kt_Snd l kt_shM kb_M_judge 13 RX7 (some .int) 0 0 0 false false 280 kd_M_judge_280 :=
  sd_aload_n (pc := 280) (kt_tab_get kx_M_judge 163 rfl) rfl <|
  sd_get (pc := 281) (k := 37) (ci := 7) kt_hc7 kt_hin7 (by decide) (kt_tab_get kx_M_judge 164 rfl) (kg_M_judge_in _ (List.mem_of_getElem? (i := 4) rfl)) <|
  sd_bipush (pc := 284) (kt_tab_get kx_M_judge 165 rfl) kc_b_18 <|
  sd_iload_n (pc := 286) (kt_tab_get kx_M_judge 166 rfl) rfl <|
  sd_imul (pc := 287) (kt_tab_get kx_M_judge 167 rfl) <|
  sd_iconst (pc := 288) (kt_tab_get kx_M_judge 168 rfl) kc_i_3 <|
  sd_iload (pc := 289) (kt_tab_get kx_M_judge 169 rfl) <|
  sd_imul (pc := 291) (kt_tab_get kx_M_judge 170 rfl) <|
  sd_iadd (pc := 292) (kt_tab_get kx_M_judge 171 rfl) <|
  sd_iload (pc := 293) (kt_tab_get kx_M_judge 172 rfl) <|
  sd_iast (pc := 295) (kt_tab_get kx_M_judge 173 rfl) <|
  sd_aload_n (pc := 296) (kt_tab_get kx_M_judge 174 rfl) rfl <|
  sd_get (pc := 297) (k := 37) (ci := 7) kt_hc7 kt_hin7 (by decide) (kt_tab_get kx_M_judge 175 rfl) (kg_M_judge_in _ (List.mem_of_getElem? (i := 4) rfl)) <|
  sd_bipush (pc := 300) (kt_tab_get kx_M_judge 176 rfl) kc_b_18 <|
  sd_iload_n (pc := 302) (kt_tab_get kx_M_judge 177 rfl) rfl <|
  sd_imul (pc := 303) (kt_tab_get kx_M_judge 178 rfl) <|
  sd_iconst (pc := 304) (kt_tab_get kx_M_judge 179 rfl) kc_i_3 <|
  sd_iload (pc := 305) (kt_tab_get kx_M_judge 180 rfl) <|
  sd_imul (pc := 307) (kt_tab_get kx_M_judge 181 rfl) <|
  sd_iadd (pc := 308) (kt_tab_get kx_M_judge 182 rfl) <|
  sd_iconst (pc := 309) (kt_tab_get kx_M_judge 183 rfl) kc_i_1 <|
  sd_iadd (pc := 310) (kt_tab_get kx_M_judge 184 rfl) <|
  sd_aload_n (pc := 311) (kt_tab_get kx_M_judge 185 rfl) rfl <|
  sd_get (pc := 312) (k := 39) (ci := 7) kt_hc7 kt_hin7 (by decide) (kt_tab_get kx_M_judge 186 rfl) (kg_M_judge_in _ (List.mem_of_getElem? (i := 6) rfl)) <|
  sd_iload_n (pc := 315) (kt_tab_get kx_M_judge 187 rfl) rfl <|
  sd_iald (pc := 316) (kt_tab_get kx_M_judge 188 rfl) <|
  sd_iast (pc := 317) (kt_tab_get kx_M_judge 189 rfl) <|
  sd_aload_n (pc := 318) (kt_tab_get kx_M_judge 190 rfl) rfl <|
  sd_get (pc := 319) (k := 36) (ci := 7) kt_hc7 kt_hin7 (by decide) (kt_tab_get kx_M_judge 191 rfl) (kg_M_judge_in _ (List.mem_of_getElem? (i := 7) rfl)) <|
  sd_iload_n (pc := 322) (kt_tab_get kx_M_judge 192 rfl) rfl <|
  sd_dup2 (pc := 323) (kt_tab_get kx_M_judge 193 rfl) <|
  sd_iald (pc := 324) (kt_tab_get kx_M_judge 194 rfl) <|
  sd_iconst (pc := 325) (kt_tab_get kx_M_judge 195 rfl) kc_i_1 <|
  sd_iadd (pc := 326) (kt_tab_get kx_M_judge 196 rfl) <|
  sd_iast (pc := 327) (kt_tab_get kx_M_judge 197 rfl) <|
  (sd_drop (k := 7) kz_M_judge_328)
noncomputable def kd_M_judge_272 : kt_D := ki_istore 12 <| ki_iload 6 <| ki_push (.int 1) <| ki_icmp_ne (ki_drop 7 (ki_drop 6 kd_M_judge_328)) (ki_drop 6 kd_M_judge_280)
theorem kz_M_judge_272 : kt_Snd l kt_shM kb_M_judge 13 RX7 (some .int) 0 0 0 false false 272 kd_M_judge_272 :=
  sd_istore (pc := 272) (kt_tab_get kx_M_judge 159 rfl) (by decide) <|
  sd_iload (pc := 274) (kt_tab_get kx_M_judge 160 rfl) <|
  sd_iconst (pc := 276) (kt_tab_get kx_M_judge 161 rfl) kc_i_1 <|
  sd_icmp_ne (pc := 277) (tgt := 328) (kt_tab_get kx_M_judge 162 rfl) rfl (sd_drop (k := 7) (sd_drop (k := 6) kz_M_judge_328)) (sd_drop (k := 6) kz_M_judge_280)
noncomputable def kd_M_judge_270 : kt_D := ki_iload 11 <| (ki_drop 11 kd_M_judge_272)
theorem kz_M_judge_270 : kt_Snd l kt_shM kb_M_judge 13 RX7 (some .int) 0 0 0 false false 270 kd_M_judge_270 :=
  sd_iload (pc := 270) (kt_tab_get kx_M_judge 158 rfl) <|
  (sd_drop (k := 11) kz_M_judge_272)
noncomputable def kd_M_judge_261 : kt_D := ki_aload 0 <| ki_get kt_shM 7 36 <| ki_iload 1 <| ki_iald kt_shM <| kd_M_judge_272
theorem kz_M_judge_261 : kt_Snd l kt_shM kb_M_judge 13 RX7 (some .int) 0 0 0 false false 261 kd_M_judge_261 :=
  sd_aload_n (pc := 261) (kt_tab_get kx_M_judge 153 rfl) rfl <|
  sd_get (pc := 262) (k := 36) (ci := 7) kt_hc7 kt_hin7 (by decide) (kt_tab_get kx_M_judge 154 rfl) (kg_M_judge_in _ (List.mem_of_getElem? (i := 7) rfl)) <|
  sd_iload_n (pc := 265) (kt_tab_get kx_M_judge 155 rfl) rfl <|
  sd_iald (pc := 266) (kt_tab_get kx_M_judge 156 rfl) <|
  sd_goto (pc := 267) (tgt := 272) (kt_tab_get kx_M_judge 157 rfl) rfl kz_M_judge_272
noncomputable def kd_M_judge_255 : kt_D := ki_iload 6 <| ki_push (.int 1) <| ki_icmp_ne kd_M_judge_270 (ki_drop 11 kd_M_judge_261)
theorem kz_M_judge_255 : kt_Snd l kt_shM kb_M_judge 13 RX7 (some .int) 0 0 0 false false 255 kd_M_judge_255 :=
  sd_iload (pc := 255) (kt_tab_get kx_M_judge 150 rfl) <|
  sd_iconst (pc := 257) (kt_tab_get kx_M_judge 151 rfl) kc_i_1 <|
  sd_icmp_ne (pc := 258) (tgt := 270) (kt_tab_get kx_M_judge 152 rfl) rfl kz_M_judge_270 (sd_drop (k := 11) kz_M_judge_261)
noncomputable def kd_M_judge_252 : kt_D := ki_push (.int 7) <| ki_iret
theorem kz_M_judge_252 : kt_Snd l kt_shM kb_M_judge 13 RX7 (some .int) 0 0 0 false false 252 kd_M_judge_252 :=
  sd_bipush (pc := 252) (kt_tab_get kx_M_judge 148 rfl) kc_b_7 <|
  sd_iret (pc := 254) rfl (by decide) (kt_tab_get kx_M_judge 149 rfl)
noncomputable def kd_M_judge_231 : kt_D := ki_iload 8 <| ki_aload 0 <| ki_get kt_shM 7 37 <| ki_push (.int 18) <| ki_iload 1 <| ki_imul <| ki_push (.int 3) <| ki_iload 11 <| ki_imul <| ki_iadd <| ki_push (.int 2) <| ki_iadd <| ki_iald kt_shM <| ki_icmp_gt kd_M_judge_255 (ki_drop 11 (ki_drop 8 (ki_drop 7 (ki_drop 6 (ki_drop 1 (ki_drop 0 kd_M_judge_252))))))
theorem kz_M_judge_231 : kt_Snd l kt_shM kb_M_judge 13 RX7 (some .int) 0 0 0 false false 231 kd_M_judge_231 :=
  sd_iload (pc := 231) (kt_tab_get kx_M_judge 134 rfl) <|
  sd_aload_n (pc := 233) (kt_tab_get kx_M_judge 135 rfl) rfl <|
  sd_get (pc := 234) (k := 37) (ci := 7) kt_hc7 kt_hin7 (by decide) (kt_tab_get kx_M_judge 136 rfl) (kg_M_judge_in _ (List.mem_of_getElem? (i := 4) rfl)) <|
  sd_bipush (pc := 237) (kt_tab_get kx_M_judge 137 rfl) kc_b_18 <|
  sd_iload_n (pc := 239) (kt_tab_get kx_M_judge 138 rfl) rfl <|
  sd_imul (pc := 240) (kt_tab_get kx_M_judge 139 rfl) <|
  sd_iconst (pc := 241) (kt_tab_get kx_M_judge 140 rfl) kc_i_3 <|
  sd_iload (pc := 242) (kt_tab_get kx_M_judge 141 rfl) <|
  sd_imul (pc := 244) (kt_tab_get kx_M_judge 142 rfl) <|
  sd_iadd (pc := 245) (kt_tab_get kx_M_judge 143 rfl) <|
  sd_iconst (pc := 246) (kt_tab_get kx_M_judge 144 rfl) kc_i_2 <|
  sd_iadd (pc := 247) (kt_tab_get kx_M_judge 145 rfl) <|
  sd_iald (pc := 248) (kt_tab_get kx_M_judge 146 rfl) <|
  sd_icmp_gt (pc := 249) (tgt := 255) (kt_tab_get kx_M_judge 147 rfl) rfl kz_M_judge_255 (sd_drop (k := 11) (sd_drop (k := 8) (sd_drop (k := 7) (sd_drop (k := 6) (sd_drop (k := 1) (sd_drop (k := 0) kz_M_judge_252))))))
noncomputable def kd_M_judge_225 : kt_D := ki_iload 6 <| ki_push (.int 2) <| ki_icmp_ne kd_M_judge_255 kd_M_judge_231
theorem kz_M_judge_225 : kt_Snd l kt_shM kb_M_judge 13 RX7 (some .int) 0 0 0 false false 225 kd_M_judge_225 :=
  sd_iload (pc := 225) (kt_tab_get kx_M_judge 131 rfl) <|
  sd_iconst (pc := 227) (kt_tab_get kx_M_judge 132 rfl) kc_i_2 <|
  sd_icmp_ne (pc := 228) (tgt := 255) (kt_tab_get kx_M_judge 133 rfl) rfl kz_M_judge_255 kz_M_judge_231
noncomputable def kd_M_judge_222 : kt_D := ki_push (.int 9) <| ki_iret
theorem kz_M_judge_222 : kt_Snd l kt_shM kb_M_judge 13 RX7 (some .int) 0 0 0 false false 222 kd_M_judge_222 :=
  sd_bipush (pc := 222) (kt_tab_get kx_M_judge 129 rfl) kc_b_9 <|
  sd_iret (pc := 224) rfl (by decide) (kt_tab_get kx_M_judge 130 rfl)
noncomputable def kd_M_judge_211 : kt_D := ki_aload 0 <| ki_get kt_shM 7 36 <| ki_iload 1 <| ki_iald kt_shM <| ki_push (.int 6) <| ki_icmp_ne kd_M_judge_225 (ki_drop 11 (ki_drop 8 (ki_drop 7 (ki_drop 6 (ki_drop 1 (ki_drop 0 kd_M_judge_222))))))
theorem kz_M_judge_211 : kt_Snd l kt_shM kb_M_judge 13 RX7 (some .int) 0 0 0 false false 211 kd_M_judge_211 :=
  sd_aload_n (pc := 211) (kt_tab_get kx_M_judge 123 rfl) rfl <|
  sd_get (pc := 212) (k := 36) (ci := 7) kt_hc7 kt_hin7 (by decide) (kt_tab_get kx_M_judge 124 rfl) (kg_M_judge_in _ (List.mem_of_getElem? (i := 7) rfl)) <|
  sd_iload_n (pc := 215) (kt_tab_get kx_M_judge 125 rfl) rfl <|
  sd_iald (pc := 216) (kt_tab_get kx_M_judge 126 rfl) <|
  sd_bipush (pc := 217) (kt_tab_get kx_M_judge 127 rfl) kc_b_6 <|
  sd_icmp_ne (pc := 219) (tgt := 225) (kt_tab_get kx_M_judge 128 rfl) rfl kz_M_judge_225 (sd_drop (k := 11) (sd_drop (k := 8) (sd_drop (k := 7) (sd_drop (k := 6) (sd_drop (k := 1) (sd_drop (k := 0) kz_M_judge_222))))))
noncomputable def kd_M_judge_205 : kt_D := ki_iload 6 <| ki_push (.int 1) <| ki_icmp_ne kd_M_judge_225 kd_M_judge_211
theorem kz_M_judge_205 : kt_Snd l kt_shM kb_M_judge 13 RX7 (some .int) 0 0 0 false false 205 kd_M_judge_205 :=
  sd_iload (pc := 205) (kt_tab_get kx_M_judge 120 rfl) <|
  sd_iconst (pc := 207) (kt_tab_get kx_M_judge 121 rfl) kc_i_1 <|
  sd_icmp_ne (pc := 208) (tgt := 225) (kt_tab_get kx_M_judge 122 rfl) rfl kz_M_judge_225 kz_M_judge_211
noncomputable def kd_M_judge_202 : kt_D := ki_push (.int 8) <| ki_iret
theorem kz_M_judge_202 : kt_Snd l kt_shM kb_M_judge 13 RX7 (some .int) 0 0 0 false false 202 kd_M_judge_202 :=
  sd_bipush (pc := 202) (kt_tab_get kx_M_judge 118 rfl) kc_b_8 <|
  sd_iret (pc := 204) rfl (by decide) (kt_tab_get kx_M_judge 119 rfl)
noncomputable def kd_M_judge_199 : kt_D := ki_icmp_ne kd_M_judge_205 (ki_drop 11 (ki_drop 8 (ki_drop 7 (ki_drop 6 (ki_drop 1 (ki_drop 0 kd_M_judge_202))))))
theorem kz_M_judge_199 : kt_Snd l kt_shM kb_M_judge 13 RX7 (some .int) 0 0 0 false false 199 kd_M_judge_199 :=
  sd_icmp_ne (pc := 199) (tgt := 205) (kt_tab_get kx_M_judge 117 rfl) rfl kz_M_judge_205 (sd_drop (k := 11) (sd_drop (k := 8) (sd_drop (k := 7) (sd_drop (k := 6) (sd_drop (k := 1) (sd_drop (k := 0) kz_M_judge_202))))))
noncomputable def kd_M_judge_198 : kt_D := ki_push (.int 0) <| kd_M_judge_199
theorem kz_M_judge_198 : kt_Snd l kt_shM kb_M_judge 13 RX7 (some .int) 0 0 0 false false 198 kd_M_judge_198 :=
  sd_iconst (pc := 198) (kt_tab_get kx_M_judge 116 rfl) kc_i_0 <|
  kz_M_judge_199
noncomputable def kd_M_judge_194 : kt_D := ki_push (.int 1) <| kd_M_judge_199
theorem kz_M_judge_194 : kt_Snd l kt_shM kb_M_judge 13 RX7 (some .int) 0 0 0 false false 194 kd_M_judge_194 :=
  sd_iconst (pc := 194) (kt_tab_get kx_M_judge 114 rfl) kc_i_1 <|
  sd_goto (pc := 195) (tgt := 199) (kt_tab_get kx_M_judge 115 rfl) rfl kz_M_judge_199
noncomputable def kd_M_judge_189 : kt_D := ki_iload 11 <| ki_if_lt kd_M_judge_198 kd_M_judge_194
theorem kz_M_judge_189 : kt_Snd l kt_shM kb_M_judge 13 RX7 (some .int) 0 0 0 false false 189 kd_M_judge_189 :=
  sd_iload (pc := 189) (kt_tab_get kx_M_judge 112 rfl) <|
  sd_if_lt (pc := 191) (tgt := 198) (kt_tab_get kx_M_judge 113 rfl) rfl kz_M_judge_198 kz_M_judge_194
noncomputable def kd_M_judge_188 : kt_D := ki_push (.int 0) <| kd_M_judge_189
theorem kz_M_judge_188 : kt_Snd l kt_shM kb_M_judge 13 RX7 (some .int) 0 0 0 false false 188 kd_M_judge_188 :=
  sd_iconst (pc := 188) (kt_tab_get kx_M_judge 111 rfl) kc_i_0 <|
  kz_M_judge_189
noncomputable def kd_M_judge_184 : kt_D := ki_push (.int 1) <| kd_M_judge_189
theorem kz_M_judge_184 : kt_Snd l kt_shM kb_M_judge 13 RX7 (some .int) 0 0 0 false false 184 kd_M_judge_184 :=
  sd_iconst (pc := 184) (kt_tab_get kx_M_judge 109 rfl) kc_i_1 <|
  sd_goto (pc := 185) (tgt := 189) (kt_tab_get kx_M_judge 110 rfl) rfl kz_M_judge_189
noncomputable def kd_M_judge_178 : kt_D := ki_iload 6 <| ki_push (.int 1) <| ki_icmp_ne kd_M_judge_188 kd_M_judge_184
theorem kz_M_judge_178 : kt_Snd l kt_shM kb_M_judge 13 RX7 (some .int) 0 0 0 false false 178 kd_M_judge_178 :=
  sd_iload (pc := 178) (kt_tab_get kx_M_judge 106 rfl) <|
  sd_iconst (pc := 180) (kt_tab_get kx_M_judge 107 rfl) kc_i_1 <|
  sd_icmp_ne (pc := 181) (tgt := 188) (kt_tab_get kx_M_judge 108 rfl) rfl kz_M_judge_188 kz_M_judge_184
noncomputable def kd_M_judge_170 (kh_133 : kt_D) : kt_D := ki_istore 11 <| ki_iinc 12 1 <| kh_133
theorem kz_M_judge_170 {kh_133 : kt_D} (zh_133 : kt_Snd l kt_shM kb_M_judge 13 RX7 (some .int) 0 0 0 false false 133 kh_133) : kt_Snd l kt_shM kb_M_judge 13 RX7 (some .int) 0 0 0 false false 170 (kd_M_judge_170 kh_133) :=
  sd_istore (pc := 170) (kt_tab_get kx_M_judge 103 rfl) (by decide) <|
  sd_iinc (pc := 172) (kt_tab_get kx_M_judge 104 rfl) kc_i_1 (by decide) <|
  sd_goto (pc := 175) (tgt := 133) (kt_tab_get kx_M_judge 105 rfl) rfl zh_133
noncomputable def kd_M_judge_168 (kh_133 : kt_D) : kt_D := ki_iload 11 <| (ki_drop 11 (kd_M_judge_170 kh_133))
theorem kz_M_judge_168 {kh_133 : kt_D} (zh_133 : kt_Snd l kt_shM kb_M_judge 13 RX7 (some .int) 0 0 0 false false 133 kh_133) : kt_Snd l kt_shM kb_M_judge 13 RX7 (some .int) 0 0 0 false false 168 (kd_M_judge_168 kh_133) :=
  sd_iload (pc := 168) (kt_tab_get kx_M_judge 102 rfl) <|
  (sd_drop (k := 11) (kz_M_judge_170 zh_133))
noncomputable def kd_M_judge_163 (kh_133 : kt_D) : kt_D := ki_iload 12 <| (kd_M_judge_170 kh_133)
theorem kz_M_judge_163 {kh_133 : kt_D} (zh_133 : kt_Snd l kt_shM kb_M_judge 13 RX7 (some .int) 0 0 0 false false 133 kh_133) : kt_Snd l kt_shM kb_M_judge 13 RX7 (some .int) 0 0 0 false false 163 (kd_M_judge_163 kh_133) :=
  sd_iload (pc := 163) (kt_tab_get kx_M_judge 100 rfl) <|
  sd_goto (pc := 165) (tgt := 170) (kt_tab_get kx_M_judge 101 rfl) rfl (kz_M_judge_170 zh_133)
noncomputable def kd_M_judge_144 (kh_133 : kt_D) : kt_D := ki_aload 0 <| ki_get kt_shM 7 37 <| ki_push (.int 18) <| ki_iload 1 <| ki_imul <| ki_push (.int 3) <| ki_iload 12 <| ki_imul <| ki_iadd <| ki_iald kt_shM <| ki_iload 7 <| ki_icmp_ne (kd_M_judge_168 kh_133) (ki_drop 11 (kd_M_judge_163 kh_133))
theorem kz_M_judge_144 {kh_133 : kt_D} (zh_133 : kt_Snd l kt_shM kb_M_judge 13 RX7 (some .int) 0 0 0 false false 133 kh_133) : kt_Snd l kt_shM kb_M_judge 13 RX7 (some .int) 0 0 0 false false 144 (kd_M_judge_144 kh_133) :=
  sd_aload_n (pc := 144) (kt_tab_get kx_M_judge 88 rfl) rfl <|
  sd_get (pc := 145) (k := 37) (ci := 7) kt_hc7 kt_hin7 (by decide) (kt_tab_get kx_M_judge 89 rfl) (kg_M_judge_in _ (List.mem_of_getElem? (i := 4) rfl)) <|
  sd_bipush (pc := 148) (kt_tab_get kx_M_judge 90 rfl) kc_b_18 <|
  sd_iload_n (pc := 150) (kt_tab_get kx_M_judge 91 rfl) rfl <|
  sd_imul (pc := 151) (kt_tab_get kx_M_judge 92 rfl) <|
  sd_iconst (pc := 152) (kt_tab_get kx_M_judge 93 rfl) kc_i_3 <|
  sd_iload (pc := 153) (kt_tab_get kx_M_judge 94 rfl) <|
  sd_imul (pc := 155) (kt_tab_get kx_M_judge 95 rfl) <|
  sd_iadd (pc := 156) (kt_tab_get kx_M_judge 96 rfl) <|
  sd_iald (pc := 157) (kt_tab_get kx_M_judge 97 rfl) <|
  sd_iload (pc := 158) (kt_tab_get kx_M_judge 98 rfl) <|
  sd_icmp_ne (pc := 160) (tgt := 168) (kt_tab_get kx_M_judge 99 rfl) rfl (kz_M_judge_168 zh_133) (sd_drop (k := 11) (kz_M_judge_163 zh_133))
noncomputable def kd_M_judge_133b (kh_133 : kt_D) : kt_D := ki_iload 12 <| ki_aload 0 <| ki_get kt_shM 7 36 <| ki_iload 1 <| ki_iald kt_shM <| ki_icmp_ge (ki_drop 12 kd_M_judge_178) (kd_M_judge_144 kh_133)
theorem kz_M_judge_133b {kh_133 : kt_D} (zh_133 : kt_Snd l kt_shM kb_M_judge 13 RX7 (some .int) 0 0 0 false false 133 kh_133) : kt_Snd l kt_shM kb_M_judge 13 RX7 (some .int) 0 0 0 false false 133 (kd_M_judge_133b kh_133) :=
  sd_iload (pc := 133) (kt_tab_get kx_M_judge 82 rfl) <|
  sd_aload_n (pc := 135) (kt_tab_get kx_M_judge 83 rfl) rfl <|
  sd_get (pc := 136) (k := 36) (ci := 7) kt_hc7 kt_hin7 (by decide) (kt_tab_get kx_M_judge 84 rfl) (kg_M_judge_in _ (List.mem_of_getElem? (i := 7) rfl)) <|
  sd_iload_n (pc := 139) (kt_tab_get kx_M_judge 85 rfl) rfl <|
  sd_iald (pc := 140) (kt_tab_get kx_M_judge 86 rfl) <|
  sd_icmp_ge (pc := 141) (tgt := 178) (kt_tab_get kx_M_judge 87 rfl) rfl (sd_drop (k := 12) kz_M_judge_178) (kz_M_judge_144 zh_133)
noncomputable def kd_M_judge_133 (n : Nat) : kt_D := Nat.rec (fun _ _ _ => none) (fun _ ih => kd_M_judge_133b ih) n
theorem kz_M_judge_133 (n : Nat) : kt_Snd l kt_shM kb_M_judge 13 RX7 (some .int) 0 0 0 false false 133 (kd_M_judge_133 n) := by
  induction n with
  | zero => exact sd_fail
  | succ n ih => exact kz_M_judge_133b ih
noncomputable def kd_M_judge_127 : kt_D := ki_push (.int (-1)) <| ki_istore 11 <| ki_push (.int 0) <| ki_istore 12 <| (kd_M_judge_133 100)
theorem kz_M_judge_127 : kt_Snd l kt_shM kb_M_judge 13 RX7 (some .int) 0 0 0 false false 127 kd_M_judge_127 :=
  sd_iconst (pc := 127) (kt_tab_get kx_M_judge 78 rfl) kc_i_m1 <|
  sd_istore (pc := 128) (kt_tab_get kx_M_judge 79 rfl) (by decide) <|
  sd_iconst (pc := 130) (kt_tab_get kx_M_judge 80 rfl) kc_i_0 <|
  sd_istore (pc := 131) (kt_tab_get kx_M_judge 81 rfl) (by decide) <|
  (kz_M_judge_133 100)
noncomputable def kd_M_judge_124 : kt_D := ki_push (.int 6) <| ki_iret
theorem kz_M_judge_124 : kt_Snd l kt_shM kb_M_judge 13 RX7 (some .int) 0 0 0 false false 124 kd_M_judge_124 :=
  sd_bipush (pc := 124) (kt_tab_get kx_M_judge 76 rfl) kc_b_6 <|
  sd_iret (pc := 126) rfl (by decide) (kt_tab_get kx_M_judge 77 rfl)
noncomputable def kd_M_judge_119 : kt_D := ki_iload 4 <| ki_if_eq (ki_drop 4 kd_M_judge_127) (ki_drop 8 (ki_drop 7 (ki_drop 6 (ki_drop 4 (ki_drop 1 (ki_drop 0 kd_M_judge_124))))))
theorem kz_M_judge_119 : kt_Snd l kt_shM kb_M_judge 13 RX7 (some .int) 0 0 0 false false 119 kd_M_judge_119 :=
  sd_iload (pc := 119) (kt_tab_get kx_M_judge 74 rfl) <|
  sd_if_eq (pc := 121) (tgt := 127) (kt_tab_get kx_M_judge 75 rfl) rfl (sd_drop (k := 4) kz_M_judge_127) (sd_drop (k := 8) (sd_drop (k := 7) (sd_drop (k := 6) (sd_drop (k := 4) (sd_drop (k := 1) (sd_drop (k := 0) kz_M_judge_124))))))
noncomputable def kd_M_judge_115 : kt_D := ki_iload 3 <| ki_if_eq (ki_drop 4 (ki_drop 3 kd_M_judge_127)) (ki_drop 3 kd_M_judge_119)
theorem kz_M_judge_115 : kt_Snd l kt_shM kb_M_judge 13 RX7 (some .int) 0 0 0 false false 115 kd_M_judge_115 :=
  sd_iload_n (pc := 115) (kt_tab_get kx_M_judge 72 rfl) rfl <|
  sd_if_eq (pc := 116) (tgt := 127) (kt_tab_get kx_M_judge 73 rfl) rfl (sd_drop (k := 4) (sd_drop (k := 3) kz_M_judge_127)) (sd_drop (k := 3) kz_M_judge_119)
noncomputable def kd_M_judge_113 : kt_D := ki_push (.int 3) <| ki_iret
theorem kz_M_judge_113 : kt_Snd l kt_shM kb_M_judge 13 RX7 (some .int) 0 0 0 false false 113 kd_M_judge_113 :=
  sd_iconst (pc := 113) (kt_tab_get kx_M_judge 70 rfl) kc_i_3 <|
  sd_iret (pc := 114) rfl (by decide) (kt_tab_get kx_M_judge 71 rfl)
noncomputable def kd_M_judge_103 : kt_D := ki_iload 9 <| ki_push (.int 752) <| ki_iload 1 <| ki_iadd <| ki_icmp_eq (ki_drop 9 kd_M_judge_115) (ki_drop 9 (ki_drop 8 (ki_drop 7 (ki_drop 6 (ki_drop 4 (ki_drop 3 (ki_drop 1 (ki_drop 0 kd_M_judge_113))))))))
theorem kz_M_judge_103 : kt_Snd l kt_shM kb_M_judge 13 RX7 (some .int) 0 0 0 false false 103 kd_M_judge_103 :=
  sd_iload (pc := 103) (kt_tab_get kx_M_judge 65 rfl) <|
  sd_sipush (pc := 105) (kt_tab_get kx_M_judge 66 rfl) kc_s_752 <|
  sd_iload_n (pc := 108) (kt_tab_get kx_M_judge 67 rfl) rfl <|
  sd_iadd (pc := 109) (kt_tab_get kx_M_judge 68 rfl) <|
  sd_icmp_eq (pc := 110) (tgt := 115) (kt_tab_get kx_M_judge 69 rfl) rfl (sd_drop (k := 9) kz_M_judge_115) (sd_drop (k := 9) (sd_drop (k := 8) (sd_drop (k := 7) (sd_drop (k := 6) (sd_drop (k := 4) (sd_drop (k := 3) (sd_drop (k := 1) (sd_drop (k := 0) kz_M_judge_113))))))))
noncomputable def kd_M_judge_101 : kt_D := ki_push (.int 2) <| ki_iret
theorem kz_M_judge_101 : kt_Snd l kt_shM kb_M_judge 13 RX7 (some .int) 0 0 0 false false 101 kd_M_judge_101 :=
  sd_iconst (pc := 101) (kt_tab_get kx_M_judge 63 rfl) kc_i_2 <|
  sd_iret (pc := 102) rfl (by decide) (kt_tab_get kx_M_judge 64 rfl)
noncomputable def kd_M_judge_83 : kt_D := ki_iadd <| ki_istore 10 <| ki_iload 10 <| ki_push (.int 4) <| ki_aload 0 <| ki_get kt_shM 7 38 <| ki_iload 1 <| ki_iald kt_shM <| ki_imul <| ki_iload 1 <| ki_iadd <| ki_icmp_eq (ki_drop 10 kd_M_judge_103) (ki_drop 10 (ki_drop 9 (ki_drop 8 (ki_drop 7 (ki_drop 6 (ki_drop 4 (ki_drop 3 (ki_drop 1 (ki_drop 0 kd_M_judge_101)))))))))
theorem kz_M_judge_83 : kt_Snd l kt_shM kb_M_judge 13 RX7 (some .int) 0 0 0 false false 83 kd_M_judge_83 :=
  sd_iadd (pc := 83) (kt_tab_get kx_M_judge 51 rfl) <|
  sd_istore (pc := 84) (kt_tab_get kx_M_judge 52 rfl) (by decide) <|
  sd_iload (pc := 86) (kt_tab_get kx_M_judge 53 rfl) <|
  sd_iconst (pc := 88) (kt_tab_get kx_M_judge 54 rfl) kc_i_4 <|
  sd_aload_n (pc := 89) (kt_tab_get kx_M_judge 55 rfl) rfl <|
  sd_get (pc := 90) (k := 38) (ci := 7) kt_hc7 kt_hin7 (by decide) (kt_tab_get kx_M_judge 56 rfl) (kg_M_judge_in _ (List.mem_of_getElem? (i := 5) rfl)) <|
  sd_iload_n (pc := 93) (kt_tab_get kx_M_judge 57 rfl) rfl <|
  sd_iald (pc := 94) (kt_tab_get kx_M_judge 58 rfl) <|
  sd_imul (pc := 95) (kt_tab_get kx_M_judge 59 rfl) <|
  sd_iload_n (pc := 96) (kt_tab_get kx_M_judge 60 rfl) rfl <|
  sd_iadd (pc := 97) (kt_tab_get kx_M_judge 61 rfl) <|
  sd_icmp_eq (pc := 98) (tgt := 103) (kt_tab_get kx_M_judge 62 rfl) rfl (sd_drop (k := 10) kz_M_judge_103) (sd_drop (k := 10) (sd_drop (k := 9) (sd_drop (k := 8) (sd_drop (k := 7) (sd_drop (k := 6) (sd_drop (k := 4) (sd_drop (k := 3) (sd_drop (k := 1) (sd_drop (k := 0) kz_M_judge_101)))))))))
noncomputable def kd_M_judge_82 : kt_D := ki_push (.int 0) <| kd_M_judge_83
theorem kz_M_judge_82 : kt_Snd l kt_shM kb_M_judge 13 RX7 (some .int) 0 0 0 false false 82 kd_M_judge_82 :=
  sd_iconst (pc := 82) (kt_tab_get kx_M_judge 50 rfl) kc_i_0 <|
  kz_M_judge_83
noncomputable def kd_M_judge_77 : kt_D := ki_iload 4 <| kd_M_judge_83
theorem kz_M_judge_77 : kt_Snd l kt_shM kb_M_judge 13 RX7 (some .int) 0 0 0 false false 77 kd_M_judge_77 :=
  sd_iload (pc := 77) (kt_tab_get kx_M_judge 48 rfl) <|
  sd_goto (pc := 79) (tgt := 83) (kt_tab_get kx_M_judge 49 rfl) rfl kz_M_judge_83
noncomputable def kd_M_judge_60 : kt_D := ki_iadd <| ki_istore 9 <| ki_aload 0 <| ki_get kt_shM 7 21 <| ki_iload 5 <| ki_push (.int 3) <| ki_iadd <| ki_iald kt_shM <| ki_iload 3 <| ki_push (.int 4) <| ki_icmp_ne (ki_drop 5 kd_M_judge_82) (ki_drop 5 kd_M_judge_77)
theorem kz_M_judge_60 : kt_Snd l kt_shM kb_M_judge 13 RX7 (some .int) 0 0 0 false false 60 kd_M_judge_60 :=
  sd_iadd (pc := 60) (kt_tab_get kx_M_judge 37 rfl) <|
  sd_istore (pc := 61) (kt_tab_get kx_M_judge 38 rfl) (by decide) <|
  sd_aload_n (pc := 63) (kt_tab_get kx_M_judge 39 rfl) rfl <|
  sd_get (pc := 64) (k := 21) (ci := 7) kt_hc7 kt_hin7 (by decide) (kt_tab_get kx_M_judge 40 rfl) (kg_M_judge_in _ (List.mem_of_getElem? (i := 8) rfl)) <|
  sd_iload (pc := 67) (kt_tab_get kx_M_judge 41 rfl) <|
  sd_iconst (pc := 69) (kt_tab_get kx_M_judge 42 rfl) kc_i_3 <|
  sd_iadd (pc := 70) (kt_tab_get kx_M_judge 43 rfl) <|
  sd_iald (pc := 71) (kt_tab_get kx_M_judge 44 rfl) <|
  sd_iload_n (pc := 72) (kt_tab_get kx_M_judge 45 rfl) rfl <|
  sd_iconst (pc := 73) (kt_tab_get kx_M_judge 46 rfl) kc_i_4 <|
  sd_icmp_ne (pc := 74) (tgt := 82) (kt_tab_get kx_M_judge 47 rfl) rfl (sd_drop (k := 5) kz_M_judge_82) (sd_drop (k := 5) kz_M_judge_77)
noncomputable def kd_M_judge_59 : kt_D := ki_push (.int 0) <| kd_M_judge_60
theorem kz_M_judge_59 : kt_Snd l kt_shM kb_M_judge 13 RX7 (some .int) 0 0 0 false false 59 kd_M_judge_59 :=
  sd_iconst (pc := 59) (kt_tab_get kx_M_judge 36 rfl) kc_i_0 <|
  kz_M_judge_60
noncomputable def kd_M_judge_54 : kt_D := ki_iload 4 <| kd_M_judge_60
theorem kz_M_judge_54 : kt_Snd l kt_shM kb_M_judge 13 RX7 (some .int) 0 0 0 false false 54 kd_M_judge_54 :=
  sd_iload (pc := 54) (kt_tab_get kx_M_judge 34 rfl) <|
  sd_goto (pc := 56) (tgt := 60) (kt_tab_get kx_M_judge 35 rfl) rfl kz_M_judge_60
noncomputable def kd_M_judge_0 : kt_D := ki_push (.int 6) <| ki_iload 2 <| ki_push (.int 40) <| ki_irem <| ki_imul <| ki_istore 5 <| ki_aload 0 <| ki_get kt_shM 7 21 <| ki_iload 5 <| ki_iald kt_shM <| ki_istore 6 <| ki_aload 0 <| ki_get kt_shM 7 21 <| ki_iload 5 <| ki_push (.int 1) <| ki_iadd <| ki_iald kt_shM <| ki_istore 7 <| ki_aload 0 <| ki_get kt_shM 7 21 <| ki_iload 5 <| ki_push (.int 4) <| ki_iadd <| ki_iald kt_shM <| ki_istore 8 <| ki_aload 0 <| ki_get kt_shM 7 21 <| ki_iload 5 <| ki_push (.int 2) <| ki_iadd <| ki_iald kt_shM <| ki_iload 3 <| ki_push (.int 3) <| ki_icmp_ne (ki_drop 2 kd_M_judge_59) (ki_drop 2 kd_M_judge_54)
theorem kz_M_judge_0 : kt_Snd l kt_shM kb_M_judge 13 RX7 (some .int) 0 0 0 false false 0 kd_M_judge_0 :=
  sd_bipush (pc := 0) (kt_tab_get kx_M_judge 0 rfl) kc_b_6 <|
  sd_iload_n (pc := 2) (kt_tab_get kx_M_judge 1 rfl) rfl <|
  sd_bipush (pc := 3) (kt_tab_get kx_M_judge 2 rfl) kc_b_40 <|
  sd_irem (pc := 5) (kt_tab_get kx_M_judge 3 rfl) <|
  sd_imul (pc := 6) (kt_tab_get kx_M_judge 4 rfl) <|
  sd_istore (pc := 7) (kt_tab_get kx_M_judge 5 rfl) (by decide) <|
  sd_aload_n (pc := 9) (kt_tab_get kx_M_judge 6 rfl) rfl <|
  sd_get (pc := 10) (k := 21) (ci := 7) kt_hc7 kt_hin7 (by decide) (kt_tab_get kx_M_judge 7 rfl) (kg_M_judge_in _ (List.mem_of_getElem? (i := 8) rfl)) <|
  sd_iload (pc := 13) (kt_tab_get kx_M_judge 8 rfl) <|
  sd_iald (pc := 15) (kt_tab_get kx_M_judge 9 rfl) <|
  sd_istore (pc := 16) (kt_tab_get kx_M_judge 10 rfl) (by decide) <|
  sd_aload_n (pc := 18) (kt_tab_get kx_M_judge 11 rfl) rfl <|
  sd_get (pc := 19) (k := 21) (ci := 7) kt_hc7 kt_hin7 (by decide) (kt_tab_get kx_M_judge 12 rfl) (kg_M_judge_in _ (List.mem_of_getElem? (i := 8) rfl)) <|
  sd_iload (pc := 22) (kt_tab_get kx_M_judge 13 rfl) <|
  sd_iconst (pc := 24) (kt_tab_get kx_M_judge 14 rfl) kc_i_1 <|
  sd_iadd (pc := 25) (kt_tab_get kx_M_judge 15 rfl) <|
  sd_iald (pc := 26) (kt_tab_get kx_M_judge 16 rfl) <|
  sd_istore (pc := 27) (kt_tab_get kx_M_judge 17 rfl) (by decide) <|
  sd_aload_n (pc := 29) (kt_tab_get kx_M_judge 18 rfl) rfl <|
  sd_get (pc := 30) (k := 21) (ci := 7) kt_hc7 kt_hin7 (by decide) (kt_tab_get kx_M_judge 19 rfl) (kg_M_judge_in _ (List.mem_of_getElem? (i := 8) rfl)) <|
  sd_iload (pc := 33) (kt_tab_get kx_M_judge 20 rfl) <|
  sd_iconst (pc := 35) (kt_tab_get kx_M_judge 21 rfl) kc_i_4 <|
  sd_iadd (pc := 36) (kt_tab_get kx_M_judge 22 rfl) <|
  sd_iald (pc := 37) (kt_tab_get kx_M_judge 23 rfl) <|
  sd_istore (pc := 38) (kt_tab_get kx_M_judge 24 rfl) (by decide) <|
  sd_aload_n (pc := 40) (kt_tab_get kx_M_judge 25 rfl) rfl <|
  sd_get (pc := 41) (k := 21) (ci := 7) kt_hc7 kt_hin7 (by decide) (kt_tab_get kx_M_judge 26 rfl) (kg_M_judge_in _ (List.mem_of_getElem? (i := 8) rfl)) <|
  sd_iload (pc := 44) (kt_tab_get kx_M_judge 27 rfl) <|
  sd_iconst (pc := 46) (kt_tab_get kx_M_judge 28 rfl) kc_i_2 <|
  sd_iadd (pc := 47) (kt_tab_get kx_M_judge 29 rfl) <|
  sd_iald (pc := 48) (kt_tab_get kx_M_judge 30 rfl) <|
  sd_iload_n (pc := 49) (kt_tab_get kx_M_judge 31 rfl) rfl <|
  sd_iconst (pc := 50) (kt_tab_get kx_M_judge 32 rfl) kc_i_3 <|
  sd_icmp_ne (pc := 51) (tgt := 59) (kt_tab_get kx_M_judge 33 rfl) rfl (sd_drop (k := 2) kz_M_judge_59) (sd_drop (k := 2) kz_M_judge_54)
noncomputable def kf_M_judge : kt_F := kt_run 13 kd_M_judge_0
theorem km_M_judge : kt_M l kt_shM ky_M_judge kb_M_judge 13 (some .int) 0 false kf_M_judge := kt_method (by decide) rfl kz_M_judge_0
noncomputable def kd_M_ceremony_251 : kt_D := ki_iret
theorem kz_M_ceremony_251 : kt_Snd l kt_shM kb_M_ceremony 7 RX7 (some .int) 8 0 0 false false 251 kd_M_ceremony_251 :=
  sd_iret (pc := 251) rfl (by decide) (kt_tab_get kx_M_ceremony 135 rfl)
noncomputable def kd_M_ceremony_238 : kt_D := ki_aload 0 <| ki_iload 1 <| ki_aload 0 <| ki_get kt_shM 7 19 <| ki_push (.int 1) <| ki_isub <| ki_push (.int 0) <| ki_push (.int 0) <| ki_callV kt_shM 7 4 kf_M_judge <| (ki_drop 1 (ki_drop 0 kd_M_ceremony_251))
theorem kz_M_ceremony_238 : kt_Snd l kt_shM kb_M_ceremony 7 RX7 (some .int) 8 0 0 false false 238 kd_M_ceremony_238 :=
  sd_aload_n (pc := 238) (kt_tab_get kx_M_ceremony 126 rfl) rfl <|
  sd_iload_n (pc := 239) (kt_tab_get kx_M_ceremony 127 rfl) rfl <|
  sd_aload_n (pc := 240) (kt_tab_get kx_M_ceremony 128 rfl) rfl <|
  sd_get (pc := 241) (k := 19) (ci := 7) kt_hc7 kt_hin7 (by decide) (kt_tab_get kx_M_ceremony 129 rfl) (kg_M_ceremony_in _ (List.mem_of_getElem? (i := 4) rfl)) <|
  sd_iconst (pc := 244) (kt_tab_get kx_M_ceremony 130 rfl) kc_i_1 <|
  sd_isub (pc := 245) (kt_tab_get kx_M_ceremony 131 rfl) <|
  sd_iconst (pc := 246) (kt_tab_get kx_M_ceremony 132 rfl) kc_i_0 <|
  sd_iconst (pc := 247) (kt_tab_get kx_M_ceremony 133 rfl) kc_i_0 <|
  sd_callV (pc := 248) km_M_judge (by decide) kv_M_judge (ci := 7) kt_hc7 (by decide) (kt_tab_get kx_M_ceremony 134 rfl) (kg_M_ceremony_in _ (List.mem_of_getElem? (i := 5) rfl)) <|
  (sd_drop (k := 1) (sd_drop (k := 0) kz_M_ceremony_251))
noncomputable def kd_M_ceremony_230 : kt_D := ki_push (.int 100) <| ki_iload 6 <| ki_iadd <| (ki_drop 6 kd_M_ceremony_251)
theorem kz_M_ceremony_230 : kt_Snd l kt_shM kb_M_ceremony 7 RX7 (some .int) 8 0 0 false false 230 kd_M_ceremony_230 :=
  sd_bipush (pc := 230) (kt_tab_get kx_M_ceremony 122 rfl) kc_b_100 <|
  sd_iload (pc := 232) (kt_tab_get kx_M_ceremony 123 rfl) <|
  sd_iadd (pc := 234) (kt_tab_get kx_M_ceremony 124 rfl) <|
  sd_goto (pc := 235) (tgt := 251) (kt_tab_get kx_M_ceremony 125 rfl) rfl (sd_drop (k := 6) kz_M_ceremony_251)
noncomputable def kd_M_ceremony_225 : kt_D := ki_iload 6 <| ki_if_eq (ki_drop 6 kd_M_ceremony_238) (ki_drop 1 (ki_drop 0 kd_M_ceremony_230))
theorem kz_M_ceremony_225 : kt_Snd l kt_shM kb_M_ceremony 7 RX7 (some .int) 8 0 0 false false 225 kd_M_ceremony_225 :=
  sd_iload (pc := 225) (kt_tab_get kx_M_ceremony 120 rfl) <|
  sd_if_eq (pc := 227) (tgt := 238) (kt_tab_get kx_M_ceremony 121 rfl) rfl (sd_drop (k := 6) kz_M_ceremony_238) (sd_drop (k := 1) (sd_drop (k := 0) kz_M_ceremony_230))
noncomputable def kd_M_ceremony_220 : kt_D := ki_push (.int 99) <| kd_M_ceremony_251
theorem kz_M_ceremony_220 : kt_Snd l kt_shM kb_M_ceremony 7 RX7 (some .int) 8 0 0 false false 220 kd_M_ceremony_220 :=
  sd_bipush (pc := 220) (kt_tab_get kx_M_ceremony 118 rfl) kc_b_99 <|
  sd_goto (pc := 222) (tgt := 251) (kt_tab_get kx_M_ceremony 119 rfl) rfl kz_M_ceremony_251
noncomputable def kd_M_ceremony_203 : kt_D := ki_aload 0 <| ki_callV kt_shM 7 0 kf_M_request <| ki_istore 6 <| ki_aload 0 <| ki_push (.int 0) <| ki_put kt_shM 7 12 0 <| ki_iload 6 <| ki_push (.int (-1)) <| ki_icmp_ne kd_M_ceremony_225 (ki_drop 6 (ki_drop 1 (ki_drop 0 kd_M_ceremony_220)))
theorem kz_M_ceremony_203 : kt_Snd l kt_shM kb_M_ceremony 7 RX7 (some .int) 8 0 0 false false 203 kd_M_ceremony_203 :=
  sd_aload_n (pc := 203) (kt_tab_get kx_M_ceremony 109 rfl) rfl <|
  sd_callV (pc := 204) km_M_request (by decide) kv_M_request (ci := 7) kt_hc7 (by decide) (kt_tab_get kx_M_ceremony 110 rfl) (kg_M_ceremony_in _ (List.mem_of_getElem? (i := 6) rfl)) <|
  sd_istore (pc := 207) (kt_tab_get kx_M_ceremony 111 rfl) (by decide) <|
  sd_aload_n (pc := 209) (kt_tab_get kx_M_ceremony 112 rfl) rfl <|
  sd_iconst (pc := 210) (kt_tab_get kx_M_ceremony 113 rfl) kc_i_0 <|
  sd_put (pc := 211) (k := 12) (ci := 7) kt_hc7 kt_hin7 tyX7_ok nmX7 (by decide) rfl rfl (Or.inl ⟨rfl, rfl⟩) (kt_tab_get kx_M_ceremony 114 rfl) (kg_M_ceremony_in _ (List.mem_of_getElem? (i := 7) rfl)) <|
  sd_iload (pc := 214) (kt_tab_get kx_M_ceremony 115 rfl) <|
  sd_iconst (pc := 216) (kt_tab_get kx_M_ceremony 116 rfl) kc_i_m1 <|
  sd_icmp_ne (pc := 217) (tgt := 225) (kt_tab_get kx_M_ceremony 117 rfl) rfl kz_M_ceremony_225 (sd_drop (k := 6) (sd_drop (k := 1) (sd_drop (k := 0) kz_M_ceremony_220)))
noncomputable def kd_M_ceremony_198 : kt_D := ki_iload 4 <| ki_callV kt_shM 7 2 kf_M_inPair <| (ki_drop 4 kd_M_ceremony_203)
theorem kz_M_ceremony_198 : kt_Snd l kt_shM kb_M_ceremony 7 RX7 (some .int) 8 0 0 false false 198 kd_M_ceremony_198 :=
  sd_iload (pc := 198) (kt_tab_get kx_M_ceremony 107 rfl) <|
  sd_callV (pc := 200) km_M_inPair (by decide) kv_M_inPair (ci := 7) kt_hc7 (by decide) (kt_tab_get kx_M_ceremony 108 rfl) (kg_M_ceremony_in _ (List.mem_of_getElem? (i := 8) rfl)) <|
  (sd_drop (k := 4) kz_M_ceremony_203)
noncomputable def kd_M_ceremony_196 : kt_D := ki_push (.int 6) <| kd_M_ceremony_198
theorem kz_M_ceremony_196 : kt_Snd l kt_shM kb_M_ceremony 7 RX7 (some .int) 8 0 0 false false 196 kd_M_ceremony_196 :=
  sd_bipush (pc := 196) (kt_tab_get kx_M_ceremony 106 rfl) kc_b_6 <|
  kz_M_ceremony_198
noncomputable def kd_M_ceremony_191 : kt_D := ki_push (.int 8) <| kd_M_ceremony_198
theorem kz_M_ceremony_191 : kt_Snd l kt_shM kb_M_ceremony 7 RX7 (some .int) 8 0 0 false false 191 kd_M_ceremony_191 :=
  sd_bipush (pc := 191) (kt_tab_get kx_M_ceremony 104 rfl) kc_b_8 <|
  sd_goto (pc := 193) (tgt := 198) (kt_tab_get kx_M_ceremony 105 rfl) rfl kz_M_ceremony_198
noncomputable def kd_M_ceremony_186 : kt_D := ki_aload 0 <| ki_iload 3 <| ki_if_eq (ki_drop 3 kd_M_ceremony_196) (ki_drop 3 kd_M_ceremony_191)
theorem kz_M_ceremony_186 : kt_Snd l kt_shM kb_M_ceremony 7 RX7 (some .int) 8 0 0 false false 186 kd_M_ceremony_186 :=
  sd_aload_n (pc := 186) (kt_tab_get kx_M_ceremony 101 rfl) rfl <|
  sd_iload_n (pc := 187) (kt_tab_get kx_M_ceremony 102 rfl) rfl <|
  sd_if_eq (pc := 188) (tgt := 196) (kt_tab_get kx_M_ceremony 103 rfl) rfl (sd_drop (k := 3) kz_M_ceremony_196) (sd_drop (k := 3) kz_M_ceremony_191)
noncomputable def kd_M_ceremony_178 : kt_D := ki_callV kt_shM 7 2 kf_M_inPair <| ki_iload 4 <| ki_if_le (ki_drop 4 (ki_drop 3 kd_M_ceremony_203)) kd_M_ceremony_186
theorem kz_M_ceremony_178 : kt_Snd l kt_shM kb_M_ceremony 7 RX7 (some .int) 8 0 0 false false 178 kd_M_ceremony_178 :=
  sd_callV (pc := 178) km_M_inPair (by decide) kv_M_inPair (ci := 7) kt_hc7 (by decide) (kt_tab_get kx_M_ceremony 98 rfl) (kg_M_ceremony_in _ (List.mem_of_getElem? (i := 8) rfl)) <|
  sd_iload (pc := 181) (kt_tab_get kx_M_ceremony 99 rfl) <|
  sd_if_le (pc := 183) (tgt := 203) (kt_tab_get kx_M_ceremony 100 rfl) rfl (sd_drop (k := 4) (sd_drop (k := 3) kz_M_ceremony_203)) kz_M_ceremony_186
noncomputable def kd_M_ceremony_176 : kt_D := ki_iload 5 <| (ki_drop 5 kd_M_ceremony_178)
theorem kz_M_ceremony_176 : kt_Snd l kt_shM kb_M_ceremony 7 RX7 (some .int) 8 0 0 false false 176 kd_M_ceremony_176 :=
  sd_iload (pc := 176) (kt_tab_get kx_M_ceremony 97 rfl) <|
  (sd_drop (k := 5) kz_M_ceremony_178)
noncomputable def kd_M_ceremony_167 : kt_D := ki_aload 0 <| ki_get kt_shM 7 39 <| ki_iload 1 <| ki_iald kt_shM <| kd_M_ceremony_178
theorem kz_M_ceremony_167 : kt_Snd l kt_shM kb_M_ceremony 7 RX7 (some .int) 8 0 0 false false 167 kd_M_ceremony_167 :=
  sd_aload_n (pc := 167) (kt_tab_get kx_M_ceremony 92 rfl) rfl <|
  sd_get (pc := 168) (k := 39) (ci := 7) kt_hc7 kt_hin7 (by decide) (kt_tab_get kx_M_ceremony 93 rfl) (kg_M_ceremony_in _ (List.mem_of_getElem? (i := 9) rfl)) <|
  sd_iload_n (pc := 171) (kt_tab_get kx_M_ceremony 94 rfl) rfl <|
  sd_iald (pc := 172) (kt_tab_get kx_M_ceremony 95 rfl) <|
  sd_goto (pc := 173) (tgt := 178) (kt_tab_get kx_M_ceremony 96 rfl) rfl kz_M_ceremony_178
noncomputable def kd_M_ceremony_163 : kt_D := ki_iload 3 <| ki_if_eq kd_M_ceremony_176 (ki_drop 5 kd_M_ceremony_167)
theorem kz_M_ceremony_163 : kt_Snd l kt_shM kb_M_ceremony 7 RX7 (some .int) 8 0 0 false false 163 kd_M_ceremony_163 :=
  sd_iload_n (pc := 163) (kt_tab_get kx_M_ceremony 90 rfl) rfl <|
  sd_if_eq (pc := 164) (tgt := 176) (kt_tab_get kx_M_ceremony 91 rfl) rfl kz_M_ceremony_176 (sd_drop (k := 5) kz_M_ceremony_167)
noncomputable def kd_M_ceremony_162 : kt_D := ki_push (.int 2) <| kd_M_ceremony_163
theorem kz_M_ceremony_162 : kt_Snd l kt_shM kb_M_ceremony 7 RX7 (some .int) 8 0 0 false false 162 kd_M_ceremony_162 :=
  sd_iconst (pc := 162) (kt_tab_get kx_M_ceremony 89 rfl) kc_i_2 <|
  kz_M_ceremony_163
noncomputable def kd_M_ceremony_158 : kt_D := ki_push (.int 3) <| kd_M_ceremony_163
theorem kz_M_ceremony_158 : kt_Snd l kt_shM kb_M_ceremony 7 RX7 (some .int) 8 0 0 false false 158 kd_M_ceremony_158 :=
  sd_iconst (pc := 158) (kt_tab_get kx_M_ceremony 87 rfl) kc_i_3 <|
  sd_goto (pc := 159) (tgt := 163) (kt_tab_get kx_M_ceremony 88 rfl) rfl kz_M_ceremony_163
noncomputable def kd_M_ceremony_136 : kt_D := ki_callV kt_shM 7 1 kf_M_in <| ki_aload 0 <| ki_push (.int 97) <| ki_callV kt_shM 7 1 kf_M_in <| ki_aload 0 <| ki_push (.int 97) <| ki_iload 2 <| ki_iadd <| ki_callV kt_shM 7 1 kf_M_in <| ki_aload 0 <| ki_iload 3 <| ki_if_eq (ki_drop 2 kd_M_ceremony_162) (ki_drop 2 kd_M_ceremony_158)
theorem kz_M_ceremony_136 : kt_Snd l kt_shM kb_M_ceremony 7 RX7 (some .int) 8 0 0 false false 136 kd_M_ceremony_136 :=
  sd_callV (pc := 136) km_M_in (by decide) kv_M_in (ci := 7) kt_hc7 (by decide) (kt_tab_get kx_M_ceremony 75 rfl) (kg_M_ceremony_in _ (List.mem_of_getElem? (i := 10) rfl)) <|
  sd_aload_n (pc := 139) (kt_tab_get kx_M_ceremony 76 rfl) rfl <|
  sd_bipush (pc := 140) (kt_tab_get kx_M_ceremony 77 rfl) kc_b_97 <|
  sd_callV (pc := 142) km_M_in (by decide) kv_M_in (ci := 7) kt_hc7 (by decide) (kt_tab_get kx_M_ceremony 78 rfl) (kg_M_ceremony_in _ (List.mem_of_getElem? (i := 10) rfl)) <|
  sd_aload_n (pc := 145) (kt_tab_get kx_M_ceremony 79 rfl) rfl <|
  sd_bipush (pc := 146) (kt_tab_get kx_M_ceremony 80 rfl) kc_b_97 <|
  sd_iload_n (pc := 148) (kt_tab_get kx_M_ceremony 81 rfl) rfl <|
  sd_iadd (pc := 149) (kt_tab_get kx_M_ceremony 82 rfl) <|
  sd_callV (pc := 150) km_M_in (by decide) kv_M_in (ci := 7) kt_hc7 (by decide) (kt_tab_get kx_M_ceremony 83 rfl) (kg_M_ceremony_in _ (List.mem_of_getElem? (i := 10) rfl)) <|
  sd_aload_n (pc := 153) (kt_tab_get kx_M_ceremony 84 rfl) rfl <|
  sd_iload_n (pc := 154) (kt_tab_get kx_M_ceremony 85 rfl) rfl <|
  sd_if_eq (pc := 155) (tgt := 162) (kt_tab_get kx_M_ceremony 86 rfl) rfl (sd_drop (k := 2) kz_M_ceremony_162) (sd_drop (k := 2) kz_M_ceremony_158)
noncomputable def kd_M_ceremony_135 : kt_D := ki_push (.int 1) <| kd_M_ceremony_136
theorem kz_M_ceremony_135 : kt_Snd l kt_shM kb_M_ceremony 7 RX7 (some .int) 8 0 0 false false 135 kd_M_ceremony_135 :=
  sd_iconst (pc := 135) (kt_tab_get kx_M_ceremony 74 rfl) kc_i_1 <|
  kz_M_ceremony_136
noncomputable def kd_M_ceremony_131 : kt_D := ki_push (.int 2) <| kd_M_ceremony_136
theorem kz_M_ceremony_131 : kt_Snd l kt_shM kb_M_ceremony 7 RX7 (some .int) 8 0 0 false false 131 kd_M_ceremony_131 :=
  sd_iconst (pc := 131) (kt_tab_get kx_M_ceremony 72 rfl) kc_i_2 <|
  sd_goto (pc := 132) (tgt := 136) (kt_tab_get kx_M_ceremony 73 rfl) rfl kz_M_ceremony_136
noncomputable def kd_M_ceremony_126 : kt_D := ki_aload 0 <| ki_iload 3 <| ki_if_eq kd_M_ceremony_135 kd_M_ceremony_131
theorem kz_M_ceremony_126 : kt_Snd l kt_shM kb_M_ceremony 7 RX7 (some .int) 8 0 0 false false 126 kd_M_ceremony_126 :=
  sd_aload_n (pc := 126) (kt_tab_get kx_M_ceremony 69 rfl) rfl <|
  sd_iload_n (pc := 127) (kt_tab_get kx_M_ceremony 70 rfl) rfl <|
  sd_if_eq (pc := 128) (tgt := 135) (kt_tab_get kx_M_ceremony 71 rfl) rfl kz_M_ceremony_135 kz_M_ceremony_131
noncomputable def kd_M_ceremony_119 : kt_D := ki_aload 0 <| ki_push (.int 1) <| ki_iload 5 <| ki_callV kt_shM 7 2 kf_M_inPair <| kd_M_ceremony_126
theorem kz_M_ceremony_119 : kt_Snd l kt_shM kb_M_ceremony 7 RX7 (some .int) 8 0 0 false false 119 kd_M_ceremony_119 :=
  sd_aload_n (pc := 119) (kt_tab_get kx_M_ceremony 65 rfl) rfl <|
  sd_iconst (pc := 120) (kt_tab_get kx_M_ceremony 66 rfl) kc_i_1 <|
  sd_iload (pc := 121) (kt_tab_get kx_M_ceremony 67 rfl) <|
  sd_callV (pc := 123) km_M_inPair (by decide) kv_M_inPair (ci := 7) kt_hc7 (by decide) (kt_tab_get kx_M_ceremony 68 rfl) (kg_M_ceremony_in _ (List.mem_of_getElem? (i := 8) rfl)) <|
  kz_M_ceremony_126
noncomputable def kd_M_ceremony_111 : kt_D := ki_iadd <| ki_callV kt_shM 7 1 kf_M_in <| ki_iload 3 <| ki_if_eq kd_M_ceremony_126 kd_M_ceremony_119
theorem kz_M_ceremony_111 : kt_Snd l kt_shM kb_M_ceremony 7 RX7 (some .int) 8 0 0 false false 111 kd_M_ceremony_111 :=
  sd_iadd (pc := 111) (kt_tab_get kx_M_ceremony 61 rfl) <|
  sd_callV (pc := 112) km_M_in (by decide) kv_M_in (ci := 7) kt_hc7 (by decide) (kt_tab_get kx_M_ceremony 62 rfl) (kg_M_ceremony_in _ (List.mem_of_getElem? (i := 10) rfl)) <|
  sd_iload_n (pc := 115) (kt_tab_get kx_M_ceremony 63 rfl) rfl <|
  sd_if_eq (pc := 116) (tgt := 126) (kt_tab_get kx_M_ceremony 64 rfl) rfl kz_M_ceremony_126 kz_M_ceremony_119
noncomputable def kd_M_ceremony_110 : kt_D := ki_push (.int 0) <| kd_M_ceremony_111
theorem kz_M_ceremony_110 : kt_Snd l kt_shM kb_M_ceremony 7 RX7 (some .int) 8 0 0 false false 110 kd_M_ceremony_110 :=
  sd_iconst (pc := 110) (kt_tab_get kx_M_ceremony 60 rfl) kc_i_0 <|
  kz_M_ceremony_111
noncomputable def kd_M_ceremony_106 : kt_D := ki_push (.int 1) <| kd_M_ceremony_111
theorem kz_M_ceremony_106 : kt_Snd l kt_shM kb_M_ceremony 7 RX7 (some .int) 8 0 0 false false 106 kd_M_ceremony_106 :=
  sd_iconst (pc := 106) (kt_tab_get kx_M_ceremony 58 rfl) kc_i_1 <|
  sd_goto (pc := 107) (tgt := 111) (kt_tab_get kx_M_ceremony 59 rfl) rfl kz_M_ceremony_111
noncomputable def kd_M_ceremony_100 : kt_D := ki_iadd <| ki_iload 4 <| ki_if_le kd_M_ceremony_110 kd_M_ceremony_106
theorem kz_M_ceremony_100 : kt_Snd l kt_shM kb_M_ceremony 7 RX7 (some .int) 8 0 0 false false 100 kd_M_ceremony_100 :=
  sd_iadd (pc := 100) (kt_tab_get kx_M_ceremony 55 rfl) <|
  sd_iload (pc := 101) (kt_tab_get kx_M_ceremony 56 rfl) <|
  sd_if_le (pc := 103) (tgt := 110) (kt_tab_get kx_M_ceremony 57 rfl) rfl kz_M_ceremony_110 kz_M_ceremony_106
noncomputable def kd_M_ceremony_99 : kt_D := ki_push (.int 2) <| kd_M_ceremony_100
theorem kz_M_ceremony_99 : kt_Snd l kt_shM kb_M_ceremony 7 RX7 (some .int) 8 0 0 false false 99 kd_M_ceremony_99 :=
  sd_iconst (pc := 99) (kt_tab_get kx_M_ceremony 54 rfl) kc_i_2 <|
  kz_M_ceremony_100
noncomputable def kd_M_ceremony_95 : kt_D := ki_push (.int 3) <| kd_M_ceremony_100
theorem kz_M_ceremony_95 : kt_Snd l kt_shM kb_M_ceremony 7 RX7 (some .int) 8 0 0 false false 95 kd_M_ceremony_95 :=
  sd_iconst (pc := 95) (kt_tab_get kx_M_ceremony 52 rfl) kc_i_3 <|
  sd_goto (pc := 96) (tgt := 100) (kt_tab_get kx_M_ceremony 53 rfl) rfl kz_M_ceremony_100
noncomputable def kd_M_ceremony_84 : kt_D := ki_callV kt_shM 7 1 kf_M_in <| ki_aload 0 <| ki_push (.int 160) <| ki_iload 3 <| ki_if_eq kd_M_ceremony_99 kd_M_ceremony_95
theorem kz_M_ceremony_84 : kt_Snd l kt_shM kb_M_ceremony 7 RX7 (some .int) 8 0 0 false false 84 kd_M_ceremony_84 :=
  sd_callV (pc := 84) km_M_in (by decide) kv_M_in (ci := 7) kt_hc7 (by decide) (kt_tab_get kx_M_ceremony 47 rfl) (kg_M_ceremony_in _ (List.mem_of_getElem? (i := 10) rfl)) <|
  sd_aload_n (pc := 87) (kt_tab_get kx_M_ceremony 48 rfl) rfl <|
  sd_sipush (pc := 88) (kt_tab_get kx_M_ceremony 49 rfl) kc_s_160 <|
  sd_iload_n (pc := 91) (kt_tab_get kx_M_ceremony 50 rfl) rfl <|
  sd_if_eq (pc := 92) (tgt := 99) (kt_tab_get kx_M_ceremony 51 rfl) rfl kz_M_ceremony_99 kz_M_ceremony_95
noncomputable def kd_M_ceremony_83 : kt_D := ki_push (.int 2) <| kd_M_ceremony_84
theorem kz_M_ceremony_83 : kt_Snd l kt_shM kb_M_ceremony 7 RX7 (some .int) 8 0 0 false false 83 kd_M_ceremony_83 :=
  sd_iconst (pc := 83) (kt_tab_get kx_M_ceremony 46 rfl) kc_i_2 <|
  kz_M_ceremony_84
noncomputable def kd_M_ceremony_79 : kt_D := ki_push (.int 1) <| kd_M_ceremony_84
theorem kz_M_ceremony_79 : kt_Snd l kt_shM kb_M_ceremony 7 RX7 (some .int) 8 0 0 false false 79 kd_M_ceremony_79 :=
  sd_iconst (pc := 79) (kt_tab_get kx_M_ceremony 44 rfl) kc_i_1 <|
  sd_goto (pc := 80) (tgt := 84) (kt_tab_get kx_M_ceremony 45 rfl) rfl kz_M_ceremony_84
noncomputable def kd_M_ceremony_52 : kt_D := ki_aload 0 <| ki_push (.int 0) <| ki_put kt_shM 7 10 0 <| ki_aload 0 <| ki_push (.int 0) <| ki_put kt_shM 7 12 0 <| ki_push (.int 4) <| ki_aload 0 <| ki_get kt_shM 7 38 <| ki_iload 1 <| ki_iald kt_shM <| ki_imul <| ki_iload 2 <| ki_iadd <| ki_istore 5 <| ki_aload 0 <| ki_iload 3 <| ki_if_eq kd_M_ceremony_83 kd_M_ceremony_79
theorem kz_M_ceremony_52 : kt_Snd l kt_shM kb_M_ceremony 7 RX7 (some .int) 8 0 0 false false 52 kd_M_ceremony_52 :=
  sd_aload_n (pc := 52) (kt_tab_get kx_M_ceremony 26 rfl) rfl <|
  sd_iconst (pc := 53) (kt_tab_get kx_M_ceremony 27 rfl) kc_i_0 <|
  sd_put (pc := 54) (k := 10) (ci := 7) kt_hc7 kt_hin7 tyX7_ok nmX7 (by decide) rfl rfl (Or.inl ⟨rfl, rfl⟩) (kt_tab_get kx_M_ceremony 28 rfl) (kg_M_ceremony_in _ (List.mem_of_getElem? (i := 11) rfl)) <|
  sd_aload_n (pc := 57) (kt_tab_get kx_M_ceremony 29 rfl) rfl <|
  sd_iconst (pc := 58) (kt_tab_get kx_M_ceremony 30 rfl) kc_i_0 <|
  sd_put (pc := 59) (k := 12) (ci := 7) kt_hc7 kt_hin7 tyX7_ok nmX7 (by decide) rfl rfl (Or.inl ⟨rfl, rfl⟩) (kt_tab_get kx_M_ceremony 31 rfl) (kg_M_ceremony_in _ (List.mem_of_getElem? (i := 7) rfl)) <|
  sd_iconst (pc := 62) (kt_tab_get kx_M_ceremony 32 rfl) kc_i_4 <|
  sd_aload_n (pc := 63) (kt_tab_get kx_M_ceremony 33 rfl) rfl <|
  sd_get (pc := 64) (k := 38) (ci := 7) kt_hc7 kt_hin7 (by decide) (kt_tab_get kx_M_ceremony 34 rfl) (kg_M_ceremony_in _ (List.mem_of_getElem? (i := 12) rfl)) <|
  sd_iload_n (pc := 67) (kt_tab_get kx_M_ceremony 35 rfl) rfl <|
  sd_iald (pc := 68) (kt_tab_get kx_M_ceremony 36 rfl) <|
  sd_imul (pc := 69) (kt_tab_get kx_M_ceremony 37 rfl) <|
  sd_iload_n (pc := 70) (kt_tab_get kx_M_ceremony 38 rfl) rfl <|
  sd_iadd (pc := 71) (kt_tab_get kx_M_ceremony 39 rfl) <|
  sd_istore (pc := 72) (kt_tab_get kx_M_ceremony 40 rfl) (by decide) <|
  sd_aload_n (pc := 74) (kt_tab_get kx_M_ceremony 41 rfl) rfl <|
  sd_iload_n (pc := 75) (kt_tab_get kx_M_ceremony 42 rfl) rfl <|
  sd_if_eq (pc := 76) (tgt := 83) (kt_tab_get kx_M_ceremony 43 rfl) rfl kz_M_ceremony_83 kz_M_ceremony_79
noncomputable def kd_M_ceremony_50 : kt_D := ki_push (.int 0) <| ki_iret
theorem kz_M_ceremony_50 : kt_Snd l kt_shM kb_M_ceremony 7 RX7 (some .int) 8 0 0 false false 50 kd_M_ceremony_50 :=
  sd_iconst (pc := 50) (kt_tab_get kx_M_ceremony 24 rfl) kc_i_0 <|
  sd_iret (pc := 51) rfl (by decide) (kt_tab_get kx_M_ceremony 25 rfl)
noncomputable def kd_M_ceremony_40 : kt_D := ki_put kt_shM 7 0 0 <| ki_aload 0 <| ki_get kt_shM 7 0 <| ki_if_le kd_M_ceremony_52 (ki_drop 4 (ki_drop 3 (ki_drop 2 (ki_drop 1 (ki_drop 0 kd_M_ceremony_50)))))
theorem kz_M_ceremony_40 : kt_Snd l kt_shM kb_M_ceremony 7 RX7 (some .int) 8 0 0 false false 40 kd_M_ceremony_40 :=
  sd_put (pc := 40) (k := 0) (ci := 7) kt_hc7 kt_hin7 tyX7_ok nmX7 (by decide) rfl rfl (Or.inl ⟨rfl, rfl⟩) (kt_tab_get kx_M_ceremony 20 rfl) (kg_M_ceremony_in _ (List.mem_of_getElem? (i := 13) rfl)) <|
  sd_aload_n (pc := 43) (kt_tab_get kx_M_ceremony 21 rfl) rfl <|
  sd_get (pc := 44) (k := 0) (ci := 7) kt_hc7 kt_hin7 (by decide) (kt_tab_get kx_M_ceremony 22 rfl) (kg_M_ceremony_in _ (List.mem_of_getElem? (i := 13) rfl)) <|
  sd_if_le (pc := 47) (tgt := 52) (kt_tab_get kx_M_ceremony 23 rfl) rfl kz_M_ceremony_52 (sd_drop (k := 4) (sd_drop (k := 3) (sd_drop (k := 2) (sd_drop (k := 1) (sd_drop (k := 0) kz_M_ceremony_50)))))
noncomputable def kd_M_ceremony_15 : kt_D := ki_push (.int 1) <| kd_M_ceremony_40
theorem kz_M_ceremony_15 : kt_Snd l kt_shM kb_M_ceremony 7 RX7 (some .int) 8 0 0 false false 15 kd_M_ceremony_15 :=
  sd_iconst (pc := 15) (kt_tab_get kx_M_ceremony 7 rfl) kc_i_1 <|
  sd_goto (pc := 16) (tgt := 40) (kt_tab_get kx_M_ceremony 8 rfl) rfl kz_M_ceremony_40
noncomputable def kd_M_ceremony_35 : kt_D := ki_push (.int 2) <| kd_M_ceremony_40
theorem kz_M_ceremony_35 : kt_Snd l kt_shM kb_M_ceremony 7 RX7 (some .int) 8 0 0 false false 35 kd_M_ceremony_35 :=
  sd_iconst (pc := 35) (kt_tab_get kx_M_ceremony 17 rfl) kc_i_2 <|
  sd_goto (pc := 36) (tgt := 40) (kt_tab_get kx_M_ceremony 18 rfl) rfl kz_M_ceremony_40
noncomputable def kd_M_ceremony_39 : kt_D := ki_push (.int 0) <| kd_M_ceremony_40
theorem kz_M_ceremony_39 : kt_Snd l kt_shM kb_M_ceremony 7 RX7 (some .int) 8 0 0 false false 39 kd_M_ceremony_39 :=
  sd_iconst (pc := 39) (kt_tab_get kx_M_ceremony 19 rfl) kc_i_0 <|
  kz_M_ceremony_40
noncomputable def kd_M_ceremony_26 : kt_D := ki_aload 0 <| ki_get kt_shM 7 38 <| ki_iload 1 <| ki_iald kt_shM <| ki_if_ne kd_M_ceremony_39 kd_M_ceremony_35
theorem kz_M_ceremony_26 : kt_Snd l kt_shM kb_M_ceremony 7 RX7 (some .int) 8 0 0 false false 26 kd_M_ceremony_26 :=
  sd_aload_n (pc := 26) (kt_tab_get kx_M_ceremony 12 rfl) rfl <|
  sd_get (pc := 27) (k := 38) (ci := 7) kt_hc7 kt_hin7 (by decide) (kt_tab_get kx_M_ceremony 13 rfl) (kg_M_ceremony_in _ (List.mem_of_getElem? (i := 12) rfl)) <|
  sd_iload_n (pc := 30) (kt_tab_get kx_M_ceremony 14 rfl) rfl <|
  sd_iald (pc := 31) (kt_tab_get kx_M_ceremony 15 rfl) <|
  sd_if_ne (pc := 32) (tgt := 39) (kt_tab_get kx_M_ceremony 16 rfl) rfl kz_M_ceremony_39 kz_M_ceremony_35
noncomputable def kd_M_ceremony_19 : kt_D := ki_aload 0 <| ki_get kt_shM 7 5 <| ki_if_eq kd_M_ceremony_35 kd_M_ceremony_26
theorem kz_M_ceremony_19 : kt_Snd l kt_shM kb_M_ceremony 7 RX7 (some .int) 8 0 0 false false 19 kd_M_ceremony_19 :=
  sd_aload_n (pc := 19) (kt_tab_get kx_M_ceremony 9 rfl) rfl <|
  sd_get (pc := 20) (k := 5) (ci := 7) kt_hc7 kt_hin7 (by decide) (kt_tab_get kx_M_ceremony 10 rfl) (kg_M_ceremony_in _ (List.mem_of_getElem? (i := 14) rfl)) <|
  sd_if_eq (pc := 23) (tgt := 35) (kt_tab_get kx_M_ceremony 11 rfl) rfl kz_M_ceremony_35 kz_M_ceremony_26
noncomputable def kd_M_ceremony_8 : kt_D := ki_iload 2 <| ki_callS 1 kf_M_isParty <| ki_if_ne kd_M_ceremony_19 kd_M_ceremony_15
theorem kz_M_ceremony_8 : kt_Snd l kt_shM kb_M_ceremony 7 RX7 (some .int) 8 0 0 false false 8 kd_M_ceremony_8 :=
  sd_iload_n (pc := 8) (kt_tab_get kx_M_ceremony 4 rfl) rfl <|
  sd_callS (pc := 9) km_M_isParty (by decide) kv_M_isParty (by decide) (kt_tab_get kx_M_ceremony 5 rfl) (kg_M_ceremony_in _ (List.mem_of_getElem? (i := 15) rfl)) <|
  sd_if_ne (pc := 12) (tgt := 19) (kt_tab_get kx_M_ceremony 6 rfl) rfl kz_M_ceremony_19 kz_M_ceremony_15
noncomputable def kd_M_ceremony_0 : kt_D := ki_aload 0 <| ki_iload 1 <| ki_callS 1 kf_M_isParty <| ki_if_eq kd_M_ceremony_15 kd_M_ceremony_8
theorem kz_M_ceremony_0 : kt_Snd l kt_shM kb_M_ceremony 7 RX7 (some .int) 8 0 0 false false 0 kd_M_ceremony_0 :=
  sd_aload_n (pc := 0) (kt_tab_get kx_M_ceremony 0 rfl) rfl <|
  sd_iload_n (pc := 1) (kt_tab_get kx_M_ceremony 1 rfl) rfl <|
  sd_callS (pc := 2) km_M_isParty (by decide) kv_M_isParty (by decide) (kt_tab_get kx_M_ceremony 2 rfl) (kg_M_ceremony_in _ (List.mem_of_getElem? (i := 15) rfl)) <|
  sd_if_eq (pc := 5) (tgt := 15) (kt_tab_get kx_M_ceremony 3 rfl) rfl kz_M_ceremony_15 kz_M_ceremony_8
noncomputable def kf_M_ceremony : kt_F := kt_run 7 kd_M_ceremony_0
theorem km_M_ceremony : kt_M l kt_shM ky_M_ceremony kb_M_ceremony 7 (some .int) 8 false kf_M_ceremony := kt_method (by decide) rfl kz_M_ceremony_0
noncomputable def kd_M_isSignature_29 : kt_D := ki_zret
theorem kz_M_isSignature_29 : kt_Snd l kt_shM kb_M_isSignature 2 RX7 (some .boolean) 0 0 0 true true 29 kd_M_isSignature_29 :=
  sd_zret (pc := 29) rfl (by decide) (kt_tab_get kx_M_isSignature 16 rfl)
noncomputable def kd_M_isSignature_28 : kt_D := ki_push (.int 0) <| kd_M_isSignature_29
theorem kz_M_isSignature_28 : kt_Snd l kt_shM kb_M_isSignature 2 RX7 (some .boolean) 0 0 0 true true 28 kd_M_isSignature_28 :=
  sd_iconst (pc := 28) (kt_tab_get kx_M_isSignature 15 rfl) kc_i_0 <|
  kz_M_isSignature_29
noncomputable def kd_M_isSignature_24 : kt_D := ki_push (.int 1) <| kd_M_isSignature_29
theorem kz_M_isSignature_24 : kt_Snd l kt_shM kb_M_isSignature 2 RX7 (some .boolean) 0 0 0 true true 24 kd_M_isSignature_24 :=
  sd_iconst (pc := 24) (kt_tab_get kx_M_isSignature 13 rfl) kc_i_1 <|
  sd_goto (pc := 25) (tgt := 29) (kt_tab_get kx_M_isSignature 14 rfl) rfl kz_M_isSignature_29
noncomputable def kd_M_isSignature_13 : kt_D := ki_iload 1 <| ki_aload 0 <| ki_get kt_shM 7 19 <| ki_push (.int 40) <| ki_isub <| ki_icmp_le (ki_drop 1 (ki_drop 0 kd_M_isSignature_28)) (ki_drop 1 (ki_drop 0 kd_M_isSignature_24))
theorem kz_M_isSignature_13 : kt_Snd l kt_shM kb_M_isSignature 2 RX7 (some .boolean) 0 0 0 true true 13 kd_M_isSignature_13 :=
  sd_iload_n (pc := 13) (kt_tab_get kx_M_isSignature 7 rfl) rfl <|
  sd_aload_n (pc := 14) (kt_tab_get kx_M_isSignature 8 rfl) rfl <|
  sd_get (pc := 15) (k := 19) (ci := 7) kt_hc7 kt_hin7 (by decide) (kt_tab_get kx_M_isSignature 9 rfl) (kg_M_isSignature_in _ (List.mem_of_getElem? (i := 4) rfl)) <|
  sd_bipush (pc := 18) (kt_tab_get kx_M_isSignature 10 rfl) kc_b_40 <|
  sd_isub (pc := 20) (kt_tab_get kx_M_isSignature 11 rfl) <|
  sd_icmp_le (pc := 21) (tgt := 28) (kt_tab_get kx_M_isSignature 12 rfl) rfl (sd_drop (k := 1) (sd_drop (k := 0) kz_M_isSignature_28)) (sd_drop (k := 1) (sd_drop (k := 0) kz_M_isSignature_24))
noncomputable def kd_M_isSignature_5 : kt_D := ki_iload 1 <| ki_aload 0 <| ki_get kt_shM 7 19 <| ki_icmp_gt (ki_drop 1 (ki_drop 0 kd_M_isSignature_28)) kd_M_isSignature_13
theorem kz_M_isSignature_5 : kt_Snd l kt_shM kb_M_isSignature 2 RX7 (some .boolean) 0 0 0 true true 5 kd_M_isSignature_5 :=
  sd_iload_n (pc := 5) (kt_tab_get kx_M_isSignature 3 rfl) rfl <|
  sd_aload_n (pc := 6) (kt_tab_get kx_M_isSignature 4 rfl) rfl <|
  sd_get (pc := 7) (k := 19) (ci := 7) kt_hc7 kt_hin7 (by decide) (kt_tab_get kx_M_isSignature 5 rfl) (kg_M_isSignature_in _ (List.mem_of_getElem? (i := 4) rfl)) <|
  sd_icmp_gt (pc := 10) (tgt := 28) (kt_tab_get kx_M_isSignature 6 rfl) rfl (sd_drop (k := 1) (sd_drop (k := 0) kz_M_isSignature_28)) kz_M_isSignature_13
noncomputable def kd_M_isSignature_0 : kt_D := ki_iload 1 <| ki_push (.int 1) <| ki_icmp_lt (ki_drop 1 (ki_drop 0 kd_M_isSignature_28)) kd_M_isSignature_5
theorem kz_M_isSignature_0 : kt_Snd l kt_shM kb_M_isSignature 2 RX7 (some .boolean) 0 0 0 true true 0 kd_M_isSignature_0 :=
  sd_iload_n (pc := 0) (kt_tab_get kx_M_isSignature 0 rfl) rfl <|
  sd_iconst (pc := 1) (kt_tab_get kx_M_isSignature 1 rfl) kc_i_1 <|
  sd_icmp_lt (pc := 2) (tgt := 28) (kt_tab_get kx_M_isSignature 2 rfl) rfl (sd_drop (k := 1) (sd_drop (k := 0) kz_M_isSignature_28)) kz_M_isSignature_5
noncomputable def kf_M_isSignature : kt_F := kt_run 2 kd_M_isSignature_0
theorem km_M_isSignature : kt_M l kt_shM ky_M_isSignature kb_M_isSignature 2 (some .boolean) 0 true kf_M_isSignature := kt_method (by decide) rfl kz_M_isSignature_0
noncomputable def kd_M_offer_72 : kt_D := ki_iret
theorem kz_M_offer_72 : kt_Snd l kt_shM kb_M_offer 5 RX7 (some .int) 1 0 0 false false 72 kd_M_offer_72 :=
  sd_iret (pc := 72) rfl (by decide) (kt_tab_get kx_M_offer 39 rfl)
noncomputable def kd_M_offer_61 : kt_D := ki_aload 0 <| ki_iload 1 <| ki_iload 2 <| ki_push (.int 1) <| ki_isub <| ki_iload 3 <| ki_iload 4 <| ki_callV kt_shM 7 4 kf_M_judge <| (ki_drop 4 (ki_drop 3 (ki_drop 2 (ki_drop 1 (ki_drop 0 kd_M_offer_72)))))
theorem kz_M_offer_61 : kt_Snd l kt_shM kb_M_offer 5 RX7 (some .int) 1 0 0 false false 61 kd_M_offer_61 :=
  sd_aload_n (pc := 61) (kt_tab_get kx_M_offer 31 rfl) rfl <|
  sd_iload_n (pc := 62) (kt_tab_get kx_M_offer 32 rfl) rfl <|
  sd_iload_n (pc := 63) (kt_tab_get kx_M_offer 33 rfl) rfl <|
  sd_iconst (pc := 64) (kt_tab_get kx_M_offer 34 rfl) kc_i_1 <|
  sd_isub (pc := 65) (kt_tab_get kx_M_offer 35 rfl) <|
  sd_iload_n (pc := 66) (kt_tab_get kx_M_offer 36 rfl) rfl <|
  sd_iload (pc := 67) (kt_tab_get kx_M_offer 37 rfl) <|
  sd_callV (pc := 69) km_M_judge (by decide) kv_M_judge (ci := 7) kt_hc7 (by decide) (kt_tab_get kx_M_offer 38 rfl) (kg_M_offer_in _ (List.mem_of_getElem? (i := 4) rfl)) <|
  (sd_drop (k := 4) (sd_drop (k := 3) (sd_drop (k := 2) (sd_drop (k := 1) (sd_drop (k := 0) kz_M_offer_72)))))
noncomputable def kd_M_offer_57 : kt_D := ki_push (.int 0) <| kd_M_offer_72
theorem kz_M_offer_57 : kt_Snd l kt_shM kb_M_offer 5 RX7 (some .int) 1 0 0 false false 57 kd_M_offer_57 :=
  sd_iconst (pc := 57) (kt_tab_get kx_M_offer 29 rfl) kc_i_0 <|
  sd_goto (pc := 58) (tgt := 72) (kt_tab_get kx_M_offer 30 rfl) rfl kz_M_offer_72
noncomputable def kd_M_offer_47 : kt_D := ki_put kt_shM 7 0 0 <| ki_aload 0 <| ki_get kt_shM 7 0 <| ki_if_le kd_M_offer_61 (ki_drop 4 (ki_drop 3 (ki_drop 2 (ki_drop 1 (ki_drop 0 kd_M_offer_57)))))
theorem kz_M_offer_47 : kt_Snd l kt_shM kb_M_offer 5 RX7 (some .int) 1 0 0 false false 47 kd_M_offer_47 :=
  sd_put (pc := 47) (k := 0) (ci := 7) kt_hc7 kt_hin7 tyX7_ok nmX7 (by decide) rfl rfl (Or.inl ⟨rfl, rfl⟩) (kt_tab_get kx_M_offer 25 rfl) (kg_M_offer_in _ (List.mem_of_getElem? (i := 5) rfl)) <|
  sd_aload_n (pc := 50) (kt_tab_get kx_M_offer 26 rfl) rfl <|
  sd_get (pc := 51) (k := 0) (ci := 7) kt_hc7 kt_hin7 (by decide) (kt_tab_get kx_M_offer 27 rfl) (kg_M_offer_in _ (List.mem_of_getElem? (i := 5) rfl)) <|
  sd_if_le (pc := 54) (tgt := 61) (kt_tab_get kx_M_offer 28 rfl) rfl kz_M_offer_61 (sd_drop (k := 4) (sd_drop (k := 3) (sd_drop (k := 2) (sd_drop (k := 1) (sd_drop (k := 0) kz_M_offer_57)))))
noncomputable def kd_M_offer_17 : kt_D := ki_push (.int 1) <| kd_M_offer_47
theorem kz_M_offer_17 : kt_Snd l kt_shM kb_M_offer 5 RX7 (some .int) 1 0 0 false false 17 kd_M_offer_17 :=
  sd_iconst (pc := 17) (kt_tab_get kx_M_offer 9 rfl) kc_i_1 <|
  sd_goto (pc := 18) (tgt := 47) (kt_tab_get kx_M_offer 10 rfl) rfl kz_M_offer_47
noncomputable def kd_M_offer_46 : kt_D := ki_push (.int 0) <| kd_M_offer_47
theorem kz_M_offer_46 : kt_Snd l kt_shM kb_M_offer 5 RX7 (some .int) 1 0 0 false false 46 kd_M_offer_46 :=
  sd_iconst (pc := 46) (kt_tab_get kx_M_offer 24 rfl) kc_i_0 <|
  kz_M_offer_47
noncomputable def kd_M_offer_42 : kt_D := ki_push (.int 3) <| kd_M_offer_47
theorem kz_M_offer_42 : kt_Snd l kt_shM kb_M_offer 5 RX7 (some .int) 1 0 0 false false 42 kd_M_offer_42 :=
  sd_iconst (pc := 42) (kt_tab_get kx_M_offer 22 rfl) kc_i_3 <|
  sd_goto (pc := 43) (tgt := 47) (kt_tab_get kx_M_offer 23 rfl) rfl kz_M_offer_47
noncomputable def kd_M_offer_33 : kt_D := ki_aload 0 <| ki_get kt_shM 7 38 <| ki_iload 1 <| ki_iald kt_shM <| ki_if_ne kd_M_offer_46 kd_M_offer_42
theorem kz_M_offer_33 : kt_Snd l kt_shM kb_M_offer 5 RX7 (some .int) 1 0 0 false false 33 kd_M_offer_33 :=
  sd_aload_n (pc := 33) (kt_tab_get kx_M_offer 17 rfl) rfl <|
  sd_get (pc := 34) (k := 38) (ci := 7) kt_hc7 kt_hin7 (by decide) (kt_tab_get kx_M_offer 18 rfl) (kg_M_offer_in _ (List.mem_of_getElem? (i := 6) rfl)) <|
  sd_iload_n (pc := 37) (kt_tab_get kx_M_offer 19 rfl) rfl <|
  sd_iald (pc := 38) (kt_tab_get kx_M_offer 20 rfl) <|
  sd_if_ne (pc := 39) (tgt := 46) (kt_tab_get kx_M_offer 21 rfl) rfl kz_M_offer_46 kz_M_offer_42
noncomputable def kd_M_offer_29 : kt_D := ki_push (.int 2) <| kd_M_offer_47
theorem kz_M_offer_29 : kt_Snd l kt_shM kb_M_offer 5 RX7 (some .int) 1 0 0 false false 29 kd_M_offer_29 :=
  sd_iconst (pc := 29) (kt_tab_get kx_M_offer 15 rfl) kc_i_2 <|
  sd_goto (pc := 30) (tgt := 47) (kt_tab_get kx_M_offer 16 rfl) rfl kz_M_offer_47
noncomputable def kd_M_offer_21 : kt_D := ki_aload 0 <| ki_iload 2 <| ki_callV kt_shM 7 1 kf_M_isSignature <| ki_if_ne kd_M_offer_33 kd_M_offer_29
theorem kz_M_offer_21 : kt_Snd l kt_shM kb_M_offer 5 RX7 (some .int) 1 0 0 false false 21 kd_M_offer_21 :=
  sd_aload_n (pc := 21) (kt_tab_get kx_M_offer 11 rfl) rfl <|
  sd_iload_n (pc := 22) (kt_tab_get kx_M_offer 12 rfl) rfl <|
  sd_callV (pc := 23) km_M_isSignature (by decide) kv_M_isSignature (ci := 7) kt_hc7 (by decide) (kt_tab_get kx_M_offer 13 rfl) (kg_M_offer_in _ (List.mem_of_getElem? (i := 7) rfl)) <|
  sd_if_ne (pc := 26) (tgt := 33) (kt_tab_get kx_M_offer 14 rfl) rfl kz_M_offer_33 kz_M_offer_29
noncomputable def kd_M_offer_12 : kt_D := ki_iload 3 <| ki_push (.int 5) <| ki_icmp_le kd_M_offer_21 kd_M_offer_17
theorem kz_M_offer_12 : kt_Snd l kt_shM kb_M_offer 5 RX7 (some .int) 1 0 0 false false 12 kd_M_offer_12 :=
  sd_iload_n (pc := 12) (kt_tab_get kx_M_offer 6 rfl) rfl <|
  sd_iconst (pc := 13) (kt_tab_get kx_M_offer 7 rfl) kc_i_5 <|
  sd_icmp_le (pc := 14) (tgt := 21) (kt_tab_get kx_M_offer 8 rfl) rfl kz_M_offer_21 kz_M_offer_17
noncomputable def kd_M_offer_8 : kt_D := ki_iload 3 <| ki_if_lt kd_M_offer_17 kd_M_offer_12
theorem kz_M_offer_8 : kt_Snd l kt_shM kb_M_offer 5 RX7 (some .int) 1 0 0 false false 8 kd_M_offer_8 :=
  sd_iload_n (pc := 8) (kt_tab_get kx_M_offer 4 rfl) rfl <|
  sd_if_lt (pc := 9) (tgt := 17) (kt_tab_get kx_M_offer 5 rfl) rfl kz_M_offer_17 kz_M_offer_12
noncomputable def kd_M_offer_0 : kt_D := ki_aload 0 <| ki_iload 1 <| ki_callS 1 kf_M_isParty <| ki_if_eq kd_M_offer_17 kd_M_offer_8
theorem kz_M_offer_0 : kt_Snd l kt_shM kb_M_offer 5 RX7 (some .int) 1 0 0 false false 0 kd_M_offer_0 :=
  sd_aload_n (pc := 0) (kt_tab_get kx_M_offer 0 rfl) rfl <|
  sd_iload_n (pc := 1) (kt_tab_get kx_M_offer 1 rfl) rfl <|
  sd_callS (pc := 2) km_M_isParty (by decide) kv_M_isParty (by decide) (kt_tab_get kx_M_offer 2 rfl) (kg_M_offer_in _ (List.mem_of_getElem? (i := 8) rfl)) <|
  sd_if_eq (pc := 5) (tgt := 17) (kt_tab_get kx_M_offer 3 rfl) rfl kz_M_offer_17 kz_M_offer_8
noncomputable def kf_M_offer : kt_F := kt_run 5 kd_M_offer_0
theorem km_M_offer : kt_M l kt_shM ky_M_offer kb_M_offer 5 (some .int) 1 false kf_M_offer := kt_method (by decide) rfl kz_M_offer_0
noncomputable def kd_M_signature_57 : kt_D := ki_iret
theorem kz_M_signature_57 : kt_Snd l kt_shM kb_M_signature 3 RX7 (some .int) 1 0 0 false false 57 kd_M_signature_57 :=
  sd_iret (pc := 57) rfl (by decide) (kt_tab_get kx_M_signature 34 rfl)
noncomputable def kd_M_signature_39 : kt_D := ki_aload 0 <| ki_get kt_shM 7 21 <| ki_push (.int 6) <| ki_iload 1 <| ki_push (.int 1) <| ki_isub <| ki_push (.int 40) <| ki_irem <| ki_imul <| ki_iload 2 <| ki_iadd <| ki_push (.int 1) <| ki_isub <| ki_iald kt_shM <| (ki_drop 2 (ki_drop 1 (ki_drop 0 kd_M_signature_57)))
theorem kz_M_signature_39 : kt_Snd l kt_shM kb_M_signature 3 RX7 (some .int) 1 0 0 false false 39 kd_M_signature_39 :=
  sd_aload_n (pc := 39) (kt_tab_get kx_M_signature 20 rfl) rfl <|
  sd_get (pc := 40) (k := 21) (ci := 7) kt_hc7 kt_hin7 (by decide) (kt_tab_get kx_M_signature 21 rfl) (kg_M_signature_in _ (List.mem_of_getElem? (i := 4) rfl)) <|
  sd_bipush (pc := 43) (kt_tab_get kx_M_signature 22 rfl) kc_b_6 <|
  sd_iload_n (pc := 45) (kt_tab_get kx_M_signature 23 rfl) rfl <|
  sd_iconst (pc := 46) (kt_tab_get kx_M_signature 24 rfl) kc_i_1 <|
  sd_isub (pc := 47) (kt_tab_get kx_M_signature 25 rfl) <|
  sd_bipush (pc := 48) (kt_tab_get kx_M_signature 26 rfl) kc_b_40 <|
  sd_irem (pc := 50) (kt_tab_get kx_M_signature 27 rfl) <|
  sd_imul (pc := 51) (kt_tab_get kx_M_signature 28 rfl) <|
  sd_iload_n (pc := 52) (kt_tab_get kx_M_signature 29 rfl) rfl <|
  sd_iadd (pc := 53) (kt_tab_get kx_M_signature 30 rfl) <|
  sd_iconst (pc := 54) (kt_tab_get kx_M_signature 31 rfl) kc_i_1 <|
  sd_isub (pc := 55) (kt_tab_get kx_M_signature 32 rfl) <|
  sd_iald (pc := 56) (kt_tab_get kx_M_signature 33 rfl) <|
  (sd_drop (k := 2) (sd_drop (k := 1) (sd_drop (k := 0) kz_M_signature_57)))
noncomputable def kd_M_signature_35 : kt_D := ki_push (.int 0) <| kd_M_signature_57
theorem kz_M_signature_35 : kt_Snd l kt_shM kb_M_signature 3 RX7 (some .int) 1 0 0 false false 35 kd_M_signature_35 :=
  sd_iconst (pc := 35) (kt_tab_get kx_M_signature 18 rfl) kc_i_0 <|
  sd_goto (pc := 36) (tgt := 57) (kt_tab_get kx_M_signature 19 rfl) rfl kz_M_signature_57
noncomputable def kd_M_signature_25 : kt_D := ki_put kt_shM 7 0 0 <| ki_aload 0 <| ki_get kt_shM 7 0 <| ki_if_le kd_M_signature_39 (ki_drop 2 (ki_drop 1 (ki_drop 0 kd_M_signature_35)))
theorem kz_M_signature_25 : kt_Snd l kt_shM kb_M_signature 3 RX7 (some .int) 1 0 0 false false 25 kd_M_signature_25 :=
  sd_put (pc := 25) (k := 0) (ci := 7) kt_hc7 kt_hin7 tyX7_ok nmX7 (by decide) rfl rfl (Or.inl ⟨rfl, rfl⟩) (kt_tab_get kx_M_signature 14 rfl) (kg_M_signature_in _ (List.mem_of_getElem? (i := 5) rfl)) <|
  sd_aload_n (pc := 28) (kt_tab_get kx_M_signature 15 rfl) rfl <|
  sd_get (pc := 29) (k := 0) (ci := 7) kt_hc7 kt_hin7 (by decide) (kt_tab_get kx_M_signature 16 rfl) (kg_M_signature_in _ (List.mem_of_getElem? (i := 5) rfl)) <|
  sd_if_le (pc := 32) (tgt := 39) (kt_tab_get kx_M_signature 17 rfl) rfl kz_M_signature_39 (sd_drop (k := 2) (sd_drop (k := 1) (sd_drop (k := 0) kz_M_signature_35)))
noncomputable def kd_M_signature_20 : kt_D := ki_push (.int 1) <| kd_M_signature_25
theorem kz_M_signature_20 : kt_Snd l kt_shM kb_M_signature 3 RX7 (some .int) 1 0 0 false false 20 kd_M_signature_20 :=
  sd_iconst (pc := 20) (kt_tab_get kx_M_signature 11 rfl) kc_i_1 <|
  sd_goto (pc := 21) (tgt := 25) (kt_tab_get kx_M_signature 12 rfl) rfl kz_M_signature_25
noncomputable def kd_M_signature_24 : kt_D := ki_push (.int 0) <| kd_M_signature_25
theorem kz_M_signature_24 : kt_Snd l kt_shM kb_M_signature 3 RX7 (some .int) 1 0 0 false false 24 kd_M_signature_24 :=
  sd_iconst (pc := 24) (kt_tab_get kx_M_signature 13 rfl) kc_i_0 <|
  kz_M_signature_25
noncomputable def kd_M_signature_14 : kt_D := ki_iload 2 <| ki_push (.int 6) <| ki_icmp_le kd_M_signature_24 kd_M_signature_20
theorem kz_M_signature_14 : kt_Snd l kt_shM kb_M_signature 3 RX7 (some .int) 1 0 0 false false 14 kd_M_signature_14 :=
  sd_iload_n (pc := 14) (kt_tab_get kx_M_signature 8 rfl) rfl <|
  sd_bipush (pc := 15) (kt_tab_get kx_M_signature 9 rfl) kc_b_6 <|
  sd_icmp_le (pc := 17) (tgt := 24) (kt_tab_get kx_M_signature 10 rfl) rfl kz_M_signature_24 kz_M_signature_20
noncomputable def kd_M_signature_9 : kt_D := ki_iload 2 <| ki_push (.int 1) <| ki_icmp_lt kd_M_signature_20 kd_M_signature_14
theorem kz_M_signature_9 : kt_Snd l kt_shM kb_M_signature 3 RX7 (some .int) 1 0 0 false false 9 kd_M_signature_9 :=
  sd_iload_n (pc := 9) (kt_tab_get kx_M_signature 5 rfl) rfl <|
  sd_iconst (pc := 10) (kt_tab_get kx_M_signature 6 rfl) kc_i_1 <|
  sd_icmp_lt (pc := 11) (tgt := 20) (kt_tab_get kx_M_signature 7 rfl) rfl kz_M_signature_20 kz_M_signature_14
noncomputable def kd_M_signature_0 : kt_D := ki_aload 0 <| ki_aload 0 <| ki_iload 1 <| ki_callV kt_shM 7 1 kf_M_isSignature <| ki_if_eq kd_M_signature_20 kd_M_signature_9
theorem kz_M_signature_0 : kt_Snd l kt_shM kb_M_signature 3 RX7 (some .int) 1 0 0 false false 0 kd_M_signature_0 :=
  sd_aload_n (pc := 0) (kt_tab_get kx_M_signature 0 rfl) rfl <|
  sd_aload_n (pc := 1) (kt_tab_get kx_M_signature 1 rfl) rfl <|
  sd_iload_n (pc := 2) (kt_tab_get kx_M_signature 2 rfl) rfl <|
  sd_callV (pc := 3) km_M_isSignature (by decide) kv_M_isSignature (ci := 7) kt_hc7 (by decide) (kt_tab_get kx_M_signature 3 rfl) (kg_M_signature_in _ (List.mem_of_getElem? (i := 6) rfl)) <|
  sd_if_eq (pc := 6) (tgt := 20) (kt_tab_get kx_M_signature 4 rfl) rfl kz_M_signature_20 kz_M_signature_9
noncomputable def kf_M_signature : kt_F := kt_run 3 kd_M_signature_0
theorem km_M_signature : kt_M l kt_shM ky_M_signature kb_M_signature 3 (some .int) 1 false kf_M_signature := kt_method (by decide) rfl kz_M_signature_0
noncomputable def kd_M_party_42 : kt_D := ki_iret
theorem kz_M_party_42 : kt_Snd l kt_shM kb_M_party 4 RX7 (some .int) 1 0 0 false false 42 kd_M_party_42 :=
  sd_iret (pc := 42) rfl (by decide) (kt_tab_get kx_M_party 24 rfl)
noncomputable def kd_M_party_36 : kt_D := ki_aload 0 <| ki_get kt_shM 7 38 <| ki_iload 1 <| ki_iald kt_shM <| (ki_drop 1 (ki_drop 0 kd_M_party_42))
theorem kz_M_party_36 : kt_Snd l kt_shM kb_M_party 4 RX7 (some .int) 1 0 0 false false 36 kd_M_party_36 :=
  sd_aload_n (pc := 36) (kt_tab_get kx_M_party 20 rfl) rfl <|
  sd_get (pc := 37) (k := 38) (ci := 7) kt_hc7 kt_hin7 (by decide) (kt_tab_get kx_M_party 21 rfl) (kg_M_party_in _ (List.mem_of_getElem? (i := 4) rfl)) <|
  sd_iload_n (pc := 40) (kt_tab_get kx_M_party 22 rfl) rfl <|
  sd_iald (pc := 41) (kt_tab_get kx_M_party 23 rfl) <|
  (sd_drop (k := 1) (sd_drop (k := 0) kz_M_party_42))
noncomputable def kd_M_party_27 : kt_D := ki_aload 0 <| ki_get kt_shM 7 36 <| ki_iload 1 <| ki_iald kt_shM <| (ki_drop 1 (ki_drop 0 kd_M_party_42))
theorem kz_M_party_27 : kt_Snd l kt_shM kb_M_party 4 RX7 (some .int) 1 0 0 false false 27 kd_M_party_27 :=
  sd_aload_n (pc := 27) (kt_tab_get kx_M_party 15 rfl) rfl <|
  sd_get (pc := 28) (k := 36) (ci := 7) kt_hc7 kt_hin7 (by decide) (kt_tab_get kx_M_party 16 rfl) (kg_M_party_in _ (List.mem_of_getElem? (i := 5) rfl)) <|
  sd_iload_n (pc := 31) (kt_tab_get kx_M_party 17 rfl) rfl <|
  sd_iald (pc := 32) (kt_tab_get kx_M_party 18 rfl) <|
  sd_goto (pc := 33) (tgt := 42) (kt_tab_get kx_M_party 19 rfl) rfl (sd_drop (k := 1) (sd_drop (k := 0) kz_M_party_42))
noncomputable def kd_M_party_23 : kt_D := ki_iload 2 <| ki_if_ne (ki_drop 2 kd_M_party_36) (ki_drop 2 kd_M_party_27)
theorem kz_M_party_23 : kt_Snd l kt_shM kb_M_party 4 RX7 (some .int) 1 0 0 false false 23 kd_M_party_23 :=
  sd_iload_n (pc := 23) (kt_tab_get kx_M_party 13 rfl) rfl <|
  sd_if_ne (pc := 24) (tgt := 36) (kt_tab_get kx_M_party 14 rfl) rfl (sd_drop (k := 2) kz_M_party_36) (sd_drop (k := 2) kz_M_party_27)
noncomputable def kd_M_party_94 : kt_D := ki_iret
theorem kz_M_party_94 : kt_Snd l kt_shM kb_M_party 4 RX7 (some .int) 1 0 0 false false 94 kd_M_party_94 :=
  sd_iret (pc := 94) rfl (by decide) (kt_tab_get kx_M_party 59 rfl)
noncomputable def kd_M_party_70 : kt_D := ki_push (.int (-1)) <| kd_M_party_94
theorem kz_M_party_70 : kt_Snd l kt_shM kb_M_party 4 RX7 (some .int) 1 0 0 false false 70 kd_M_party_70 :=
  sd_iconst (pc := 70) (kt_tab_get kx_M_party 41 rfl) kc_i_m1 <|
  sd_goto (pc := 71) (tgt := 94) (kt_tab_get kx_M_party 42 rfl) rfl kz_M_party_94
noncomputable def kd_M_party_74 : kt_D := ki_aload 0 <| ki_get kt_shM 7 37 <| ki_push (.int 18) <| ki_iload 1 <| ki_imul <| ki_push (.int 3) <| ki_iload 3 <| ki_imul <| ki_iadd <| ki_iload 2 <| ki_push (.int 10) <| ki_idiv <| ki_iadd <| ki_push (.int 1) <| ki_isub <| ki_iald kt_shM <| (ki_drop 3 (ki_drop 2 (ki_drop 1 (ki_drop 0 kd_M_party_94))))
theorem kz_M_party_74 : kt_Snd l kt_shM kb_M_party 4 RX7 (some .int) 1 0 0 false false 74 kd_M_party_74 :=
  sd_aload_n (pc := 74) (kt_tab_get kx_M_party 43 rfl) rfl <|
  sd_get (pc := 75) (k := 37) (ci := 7) kt_hc7 kt_hin7 (by decide) (kt_tab_get kx_M_party 44 rfl) (kg_M_party_in _ (List.mem_of_getElem? (i := 6) rfl)) <|
  sd_bipush (pc := 78) (kt_tab_get kx_M_party 45 rfl) kc_b_18 <|
  sd_iload_n (pc := 80) (kt_tab_get kx_M_party 46 rfl) rfl <|
  sd_imul (pc := 81) (kt_tab_get kx_M_party 47 rfl) <|
  sd_iconst (pc := 82) (kt_tab_get kx_M_party 48 rfl) kc_i_3 <|
  sd_iload_n (pc := 83) (kt_tab_get kx_M_party 49 rfl) rfl <|
  sd_imul (pc := 84) (kt_tab_get kx_M_party 50 rfl) <|
  sd_iadd (pc := 85) (kt_tab_get kx_M_party 51 rfl) <|
  sd_iload_n (pc := 86) (kt_tab_get kx_M_party 52 rfl) rfl <|
  sd_bipush (pc := 87) (kt_tab_get kx_M_party 53 rfl) kc_b_10 <|
  sd_idiv (pc := 89) (kt_tab_get kx_M_party 54 rfl) <|
  sd_iadd (pc := 90) (kt_tab_get kx_M_party 55 rfl) <|
  sd_iconst (pc := 91) (kt_tab_get kx_M_party 56 rfl) kc_i_1 <|
  sd_isub (pc := 92) (kt_tab_get kx_M_party 57 rfl) <|
  sd_iald (pc := 93) (kt_tab_get kx_M_party 58 rfl) <|
  (sd_drop (k := 3) (sd_drop (k := 2) (sd_drop (k := 1) (sd_drop (k := 0) kz_M_party_94))))
noncomputable def kd_M_party_60 : kt_D := ki_iload 3 <| ki_aload 0 <| ki_get kt_shM 7 36 <| ki_iload 1 <| ki_iald kt_shM <| ki_icmp_lt kd_M_party_74 (ki_drop 3 (ki_drop 2 (ki_drop 1 (ki_drop 0 kd_M_party_70))))
theorem kz_M_party_60 : kt_Snd l kt_shM kb_M_party 4 RX7 (some .int) 1 0 0 false false 60 kd_M_party_60 :=
  sd_iload_n (pc := 60) (kt_tab_get kx_M_party 35 rfl) rfl <|
  sd_aload_n (pc := 61) (kt_tab_get kx_M_party 36 rfl) rfl <|
  sd_get (pc := 62) (k := 36) (ci := 7) kt_hc7 kt_hin7 (by decide) (kt_tab_get kx_M_party 37 rfl) (kg_M_party_in _ (List.mem_of_getElem? (i := 5) rfl)) <|
  sd_iload_n (pc := 65) (kt_tab_get kx_M_party 38 rfl) rfl <|
  sd_iald (pc := 66) (kt_tab_get kx_M_party 39 rfl) <|
  sd_icmp_lt (pc := 67) (tgt := 74) (kt_tab_get kx_M_party 40 rfl) rfl kz_M_party_74 (sd_drop (k := 3) (sd_drop (k := 2) (sd_drop (k := 1) (sd_drop (k := 0) kz_M_party_70))))
noncomputable def kd_M_party_54 : kt_D := ki_iload 2 <| ki_push (.int 39) <| ki_icmp_gt (ki_drop 3 (ki_drop 2 (ki_drop 1 (ki_drop 0 kd_M_party_70)))) kd_M_party_60
theorem kz_M_party_54 : kt_Snd l kt_shM kb_M_party 4 RX7 (some .int) 1 0 0 false false 54 kd_M_party_54 :=
  sd_iload_n (pc := 54) (kt_tab_get kx_M_party 32 rfl) rfl <|
  sd_bipush (pc := 55) (kt_tab_get kx_M_party 33 rfl) kc_b_39 <|
  sd_icmp_gt (pc := 57) (tgt := 70) (kt_tab_get kx_M_party 34 rfl) rfl (sd_drop (k := 3) (sd_drop (k := 2) (sd_drop (k := 1) (sd_drop (k := 0) kz_M_party_70)))) kz_M_party_60
noncomputable def kd_M_party_43 : kt_D := ki_iload 2 <| ki_push (.int 10) <| ki_irem <| ki_istore 3 <| ki_iload 2 <| ki_push (.int 10) <| ki_icmp_lt (ki_drop 3 (ki_drop 2 (ki_drop 1 (ki_drop 0 kd_M_party_70)))) kd_M_party_54
theorem kz_M_party_43 : kt_Snd l kt_shM kb_M_party 4 RX7 (some .int) 1 0 0 false false 43 kd_M_party_43 :=
  sd_iload_n (pc := 43) (kt_tab_get kx_M_party 25 rfl) rfl <|
  sd_bipush (pc := 44) (kt_tab_get kx_M_party 26 rfl) kc_b_10 <|
  sd_irem (pc := 46) (kt_tab_get kx_M_party 27 rfl) <|
  sd_istore_n (pc := 47) (kt_tab_get kx_M_party 28 rfl) rfl (by decide) <|
  sd_iload_n (pc := 48) (kt_tab_get kx_M_party 29 rfl) rfl <|
  sd_bipush (pc := 49) (kt_tab_get kx_M_party 30 rfl) kc_b_10 <|
  sd_icmp_lt (pc := 51) (tgt := 70) (kt_tab_get kx_M_party 31 rfl) rfl (sd_drop (k := 3) (sd_drop (k := 2) (sd_drop (k := 1) (sd_drop (k := 0) kz_M_party_70)))) kz_M_party_54
noncomputable def kd_M_party_18 : kt_D := ki_iload 2 <| ki_push (.int 1) <| ki_icmp_ne kd_M_party_43 kd_M_party_23
theorem kz_M_party_18 : kt_Snd l kt_shM kb_M_party 4 RX7 (some .int) 1 0 0 false false 18 kd_M_party_18 :=
  sd_iload_n (pc := 18) (kt_tab_get kx_M_party 10 rfl) rfl <|
  sd_iconst (pc := 19) (kt_tab_get kx_M_party 11 rfl) kc_i_1 <|
  sd_icmp_ne (pc := 20) (tgt := 43) (kt_tab_get kx_M_party 12 rfl) rfl kz_M_party_43 kz_M_party_23
noncomputable def kd_M_party_14 : kt_D := ki_iload 2 <| ki_if_eq kd_M_party_23 kd_M_party_18
theorem kz_M_party_14 : kt_Snd l kt_shM kb_M_party 4 RX7 (some .int) 1 0 0 false false 14 kd_M_party_14 :=
  sd_iload_n (pc := 14) (kt_tab_get kx_M_party 8 rfl) rfl <|
  sd_if_eq (pc := 15) (tgt := 23) (kt_tab_get kx_M_party 9 rfl) rfl kz_M_party_23 kz_M_party_18
noncomputable def kd_M_party_12 : kt_D := ki_push (.int (-1)) <| ki_iret
theorem kz_M_party_12 : kt_Snd l kt_shM kb_M_party 4 RX7 (some .int) 1 0 0 false false 12 kd_M_party_12 :=
  sd_iconst (pc := 12) (kt_tab_get kx_M_party 6 rfl) kc_i_m1 <|
  sd_iret (pc := 13) rfl (by decide) (kt_tab_get kx_M_party 7 rfl)
noncomputable def kd_M_party_0 : kt_D := ki_aload 0 <| ki_push (.int 0) <| ki_put kt_shM 7 0 0 <| ki_iload 1 <| ki_callS 1 kf_M_isParty <| ki_if_ne kd_M_party_14 (ki_drop 2 (ki_drop 1 (ki_drop 0 kd_M_party_12)))
theorem kz_M_party_0 : kt_Snd l kt_shM kb_M_party 4 RX7 (some .int) 1 0 0 false false 0 kd_M_party_0 :=
  sd_aload_n (pc := 0) (kt_tab_get kx_M_party 0 rfl) rfl <|
  sd_iconst (pc := 1) (kt_tab_get kx_M_party 1 rfl) kc_i_0 <|
  sd_put (pc := 2) (k := 0) (ci := 7) kt_hc7 kt_hin7 tyX7_ok nmX7 (by decide) rfl rfl (Or.inl ⟨rfl, rfl⟩) (kt_tab_get kx_M_party 2 rfl) (kg_M_party_in _ (List.mem_of_getElem? (i := 7) rfl)) <|
  sd_iload_n (pc := 5) (kt_tab_get kx_M_party 3 rfl) rfl <|
  sd_callS (pc := 6) km_M_isParty (by decide) kv_M_isParty (by decide) (kt_tab_get kx_M_party 4 rfl) (kg_M_party_in _ (List.mem_of_getElem? (i := 8) rfl)) <|
  sd_if_ne (pc := 9) (tgt := 14) (kt_tab_get kx_M_party 5 rfl) rfl kz_M_party_14 (sd_drop (k := 2) (sd_drop (k := 1) (sd_drop (k := 0) kz_M_party_12)))
noncomputable def kf_M_party : kt_F := kt_run 4 kd_M_party_0
theorem km_M_party : kt_M l kt_shM ky_M_party kb_M_party 4 (some .int) 1 false kf_M_party := kt_method (by decide) rfl kz_M_party_0
noncomputable def kd_M_cell_39 : kt_D := ki_iret
theorem kz_M_cell_39 : kt_Snd l kt_shM kb_M_cell 3 RX7 (some .int) 0 0 0 false false 39 kd_M_cell_39 :=
  sd_iret (pc := 39) rfl (by decide) (kt_tab_get kx_M_cell 23 rfl)
noncomputable def kd_M_cell_24 : kt_D := ki_push (.int 0) <| kd_M_cell_39
theorem kz_M_cell_24 : kt_Snd l kt_shM kb_M_cell 3 RX7 (some .int) 0 0 0 false false 24 kd_M_cell_24 :=
  sd_iconst (pc := 24) (kt_tab_get kx_M_cell 13 rfl) kc_i_0 <|
  sd_goto (pc := 25) (tgt := 39) (kt_tab_get kx_M_cell 14 rfl) rfl kz_M_cell_39
noncomputable def kd_M_cell_28 : kt_D := ki_aload 0 <| ki_get kt_shM 7 1 <| ki_push (.int 6) <| ki_iload 1 <| ki_imul <| ki_iload 2 <| ki_iadd <| ki_iald kt_shM <| (ki_drop 2 (ki_drop 1 (ki_drop 0 kd_M_cell_39)))
theorem kz_M_cell_28 : kt_Snd l kt_shM kb_M_cell 3 RX7 (some .int) 0 0 0 false false 28 kd_M_cell_28 :=
  sd_aload_n (pc := 28) (kt_tab_get kx_M_cell 15 rfl) rfl <|
  sd_get (pc := 29) (k := 1) (ci := 7) kt_hc7 kt_hin7 (by decide) (kt_tab_get kx_M_cell 16 rfl) (kg_M_cell_in _ (List.mem_of_getElem? (i := 4) rfl)) <|
  sd_bipush (pc := 32) (kt_tab_get kx_M_cell 17 rfl) kc_b_6 <|
  sd_iload_n (pc := 34) (kt_tab_get kx_M_cell 18 rfl) rfl <|
  sd_imul (pc := 35) (kt_tab_get kx_M_cell 19 rfl) <|
  sd_iload_n (pc := 36) (kt_tab_get kx_M_cell 20 rfl) rfl <|
  sd_iadd (pc := 37) (kt_tab_get kx_M_cell 21 rfl) <|
  sd_iald (pc := 38) (kt_tab_get kx_M_cell 22 rfl) <|
  (sd_drop (k := 2) (sd_drop (k := 1) (sd_drop (k := 0) kz_M_cell_39)))
noncomputable def kd_M_cell_19 : kt_D := ki_iload 2 <| ki_push (.int 5) <| ki_icmp_le kd_M_cell_28 (ki_drop 2 (ki_drop 1 (ki_drop 0 kd_M_cell_24)))
theorem kz_M_cell_19 : kt_Snd l kt_shM kb_M_cell 3 RX7 (some .int) 0 0 0 false false 19 kd_M_cell_19 :=
  sd_iload_n (pc := 19) (kt_tab_get kx_M_cell 10 rfl) rfl <|
  sd_iconst (pc := 20) (kt_tab_get kx_M_cell 11 rfl) kc_i_5 <|
  sd_icmp_le (pc := 21) (tgt := 28) (kt_tab_get kx_M_cell 12 rfl) rfl kz_M_cell_28 (sd_drop (k := 2) (sd_drop (k := 1) (sd_drop (k := 0) kz_M_cell_24)))
noncomputable def kd_M_cell_15 : kt_D := ki_iload 2 <| ki_if_lt (ki_drop 2 (ki_drop 1 (ki_drop 0 kd_M_cell_24))) kd_M_cell_19
theorem kz_M_cell_15 : kt_Snd l kt_shM kb_M_cell 3 RX7 (some .int) 0 0 0 false false 15 kd_M_cell_15 :=
  sd_iload_n (pc := 15) (kt_tab_get kx_M_cell 8 rfl) rfl <|
  sd_if_lt (pc := 16) (tgt := 24) (kt_tab_get kx_M_cell 9 rfl) rfl (sd_drop (k := 2) (sd_drop (k := 1) (sd_drop (k := 0) kz_M_cell_24))) kz_M_cell_19
noncomputable def kd_M_cell_9 : kt_D := ki_iload 1 <| ki_push (.int 6) <| ki_icmp_gt (ki_drop 2 (ki_drop 1 (ki_drop 0 kd_M_cell_24))) kd_M_cell_15
theorem kz_M_cell_9 : kt_Snd l kt_shM kb_M_cell 3 RX7 (some .int) 0 0 0 false false 9 kd_M_cell_9 :=
  sd_iload_n (pc := 9) (kt_tab_get kx_M_cell 5 rfl) rfl <|
  sd_bipush (pc := 10) (kt_tab_get kx_M_cell 6 rfl) kc_b_6 <|
  sd_icmp_gt (pc := 12) (tgt := 24) (kt_tab_get kx_M_cell 7 rfl) rfl (sd_drop (k := 2) (sd_drop (k := 1) (sd_drop (k := 0) kz_M_cell_24))) kz_M_cell_15
noncomputable def kd_M_cell_0 : kt_D := ki_aload 0 <| ki_push (.int 0) <| ki_put kt_shM 7 0 0 <| ki_iload 1 <| ki_if_lt (ki_drop 2 (ki_drop 1 (ki_drop 0 kd_M_cell_24))) kd_M_cell_9
theorem kz_M_cell_0 : kt_Snd l kt_shM kb_M_cell 3 RX7 (some .int) 0 0 0 false false 0 kd_M_cell_0 :=
  sd_aload_n (pc := 0) (kt_tab_get kx_M_cell 0 rfl) rfl <|
  sd_iconst (pc := 1) (kt_tab_get kx_M_cell 1 rfl) kc_i_0 <|
  sd_put (pc := 2) (k := 0) (ci := 7) kt_hc7 kt_hin7 tyX7_ok nmX7 (by decide) rfl rfl (Or.inl ⟨rfl, rfl⟩) (kt_tab_get kx_M_cell 2 rfl) (kg_M_cell_in _ (List.mem_of_getElem? (i := 5) rfl)) <|
  sd_iload_n (pc := 5) (kt_tab_get kx_M_cell 3 rfl) rfl <|
  sd_if_lt (pc := 6) (tgt := 24) (kt_tab_get kx_M_cell 4 rfl) rfl (sd_drop (k := 2) (sd_drop (k := 1) (sd_drop (k := 0) kz_M_cell_24))) kz_M_cell_9
noncomputable def kf_M_cell : kt_F := kt_run 3 kd_M_cell_0
theorem km_M_cell : kt_M l kt_shM ky_M_cell kb_M_cell 3 (some .int) 0 false kf_M_cell := kt_method (by decide) rfl kz_M_cell_0
noncomputable def kd_M_look_139 : kt_D := ki_iret
theorem kz_M_look_139 : kt_Snd l kt_shM kb_M_look 2 RX7 (some .int) 0 0 0 false false 139 kd_M_look_139 :=
  sd_iret (pc := 139) rfl (by decide) (kt_tab_get kx_M_look 70 rfl)
noncomputable def kd_M_look_138 : kt_D := ki_push (.int (-1)) <| kd_M_look_139
theorem kz_M_look_138 : kt_Snd l kt_shM kb_M_look 2 RX7 (some .int) 0 0 0 false false 138 kd_M_look_138 :=
  sd_iconst (pc := 138) (kt_tab_get kx_M_look 69 rfl) kc_i_m1 <|
  kz_M_look_139
noncomputable def kd_M_look_131 : kt_D := ki_aload 0 <| ki_get kt_shM 7 19 <| (ki_drop 0 kd_M_look_139)
theorem kz_M_look_131 : kt_Snd l kt_shM kb_M_look 2 RX7 (some .int) 0 0 0 false false 131 kd_M_look_131 :=
  sd_aload_n (pc := 131) (kt_tab_get kx_M_look 66 rfl) rfl <|
  sd_get (pc := 132) (k := 19) (ci := 7) kt_hc7 kt_hin7 (by decide) (kt_tab_get kx_M_look 67 rfl) (kg_M_look_in _ (List.mem_of_getElem? (i := 4) rfl)) <|
  sd_goto (pc := 135) (tgt := 139) (kt_tab_get kx_M_look 68 rfl) rfl (sd_drop (k := 0) kz_M_look_139)
noncomputable def kd_M_look_125 : kt_D := ki_iload 1 <| ki_push (.int 8) <| ki_icmp_ne (ki_drop 1 (ki_drop 0 kd_M_look_138)) (ki_drop 1 kd_M_look_131)
theorem kz_M_look_125 : kt_Snd l kt_shM kb_M_look 2 RX7 (some .int) 0 0 0 false false 125 kd_M_look_125 :=
  sd_iload_n (pc := 125) (kt_tab_get kx_M_look 63 rfl) rfl <|
  sd_bipush (pc := 126) (kt_tab_get kx_M_look 64 rfl) kc_b_8 <|
  sd_icmp_ne (pc := 128) (tgt := 138) (kt_tab_get kx_M_look 65 rfl) rfl (sd_drop (k := 1) (sd_drop (k := 0) kz_M_look_138)) (sd_drop (k := 1) kz_M_look_131)
noncomputable def kd_M_look_118 : kt_D := ki_aload 0 <| ki_get kt_shM 7 17 <| (ki_drop 0 kd_M_look_139)
theorem kz_M_look_118 : kt_Snd l kt_shM kb_M_look 2 RX7 (some .int) 0 0 0 false false 118 kd_M_look_118 :=
  sd_aload_n (pc := 118) (kt_tab_get kx_M_look 60 rfl) rfl <|
  sd_get (pc := 119) (k := 17) (ci := 7) kt_hc7 kt_hin7 (by decide) (kt_tab_get kx_M_look 61 rfl) (kg_M_look_in _ (List.mem_of_getElem? (i := 5) rfl)) <|
  sd_goto (pc := 122) (tgt := 139) (kt_tab_get kx_M_look 62 rfl) rfl (sd_drop (k := 0) kz_M_look_139)
noncomputable def kd_M_look_112 : kt_D := ki_iload 1 <| ki_push (.int 7) <| ki_icmp_ne kd_M_look_125 (ki_drop 1 kd_M_look_118)
theorem kz_M_look_112 : kt_Snd l kt_shM kb_M_look 2 RX7 (some .int) 0 0 0 false false 112 kd_M_look_112 :=
  sd_iload_n (pc := 112) (kt_tab_get kx_M_look 57 rfl) rfl <|
  sd_bipush (pc := 113) (kt_tab_get kx_M_look 58 rfl) kc_b_7 <|
  sd_icmp_ne (pc := 115) (tgt := 125) (kt_tab_get kx_M_look 59 rfl) rfl kz_M_look_125 (sd_drop (k := 1) kz_M_look_118)
noncomputable def kd_M_look_105 : kt_D := ki_aload 0 <| ki_get kt_shM 7 10 <| (ki_drop 0 kd_M_look_139)
theorem kz_M_look_105 : kt_Snd l kt_shM kb_M_look 2 RX7 (some .int) 0 0 0 false false 105 kd_M_look_105 :=
  sd_aload_n (pc := 105) (kt_tab_get kx_M_look 54 rfl) rfl <|
  sd_get (pc := 106) (k := 10) (ci := 7) kt_hc7 kt_hin7 (by decide) (kt_tab_get kx_M_look 55 rfl) (kg_M_look_in _ (List.mem_of_getElem? (i := 6) rfl)) <|
  sd_goto (pc := 109) (tgt := 139) (kt_tab_get kx_M_look 56 rfl) rfl (sd_drop (k := 0) kz_M_look_139)
noncomputable def kd_M_look_99 : kt_D := ki_iload 1 <| ki_push (.int 6) <| ki_icmp_ne kd_M_look_112 (ki_drop 1 kd_M_look_105)
theorem kz_M_look_99 : kt_Snd l kt_shM kb_M_look 2 RX7 (some .int) 0 0 0 false false 99 kd_M_look_99 :=
  sd_iload_n (pc := 99) (kt_tab_get kx_M_look 51 rfl) rfl <|
  sd_bipush (pc := 100) (kt_tab_get kx_M_look 52 rfl) kc_b_6 <|
  sd_icmp_ne (pc := 102) (tgt := 112) (kt_tab_get kx_M_look 53 rfl) rfl kz_M_look_112 (sd_drop (k := 1) kz_M_look_105)
noncomputable def kd_M_look_92 : kt_D := ki_aload 0 <| ki_get kt_shM 7 2 <| (ki_drop 0 kd_M_look_139)
theorem kz_M_look_92 : kt_Snd l kt_shM kb_M_look 2 RX7 (some .int) 0 0 0 false false 92 kd_M_look_92 :=
  sd_aload_n (pc := 92) (kt_tab_get kx_M_look 48 rfl) rfl <|
  sd_get (pc := 93) (k := 2) (ci := 7) kt_hc7 kt_hin7 (by decide) (kt_tab_get kx_M_look 49 rfl) (kg_M_look_in _ (List.mem_of_getElem? (i := 7) rfl)) <|
  sd_goto (pc := 96) (tgt := 139) (kt_tab_get kx_M_look 50 rfl) rfl (sd_drop (k := 0) kz_M_look_139)
noncomputable def kd_M_look_87 : kt_D := ki_iload 1 <| ki_push (.int 5) <| ki_icmp_ne kd_M_look_99 (ki_drop 1 kd_M_look_92)
theorem kz_M_look_87 : kt_Snd l kt_shM kb_M_look 2 RX7 (some .int) 0 0 0 false false 87 kd_M_look_87 :=
  sd_iload_n (pc := 87) (kt_tab_get kx_M_look 45 rfl) rfl <|
  sd_iconst (pc := 88) (kt_tab_get kx_M_look 46 rfl) kc_i_5 <|
  sd_icmp_ne (pc := 89) (tgt := 99) (kt_tab_get kx_M_look 47 rfl) rfl kz_M_look_99 (sd_drop (k := 1) kz_M_look_92)
noncomputable def kd_M_look_86 : kt_D := ki_iret
theorem kz_M_look_86 : kt_Snd l kt_shM kb_M_look 2 RX7 (some .int) 0 0 0 false false 86 kd_M_look_86 :=
  sd_iret (pc := 86) rfl (by decide) (kt_tab_get kx_M_look 44 rfl)
noncomputable def kd_M_look_85 : kt_D := ki_push (.int (-1)) <| kd_M_look_86
theorem kz_M_look_85 : kt_Snd l kt_shM kb_M_look 2 RX7 (some .int) 0 0 0 false false 85 kd_M_look_85 :=
  sd_iconst (pc := 85) (kt_tab_get kx_M_look 43 rfl) kc_i_m1 <|
  kz_M_look_86
noncomputable def kd_M_look_78 : kt_D := ki_aload 0 <| ki_get kt_shM 7 13 <| (ki_drop 0 kd_M_look_86)
theorem kz_M_look_78 : kt_Snd l kt_shM kb_M_look 2 RX7 (some .int) 0 0 0 false false 78 kd_M_look_78 :=
  sd_aload_n (pc := 78) (kt_tab_get kx_M_look 40 rfl) rfl <|
  sd_get (pc := 79) (k := 13) (ci := 7) kt_hc7 kt_hin7 (by decide) (kt_tab_get kx_M_look 41 rfl) (kg_M_look_in _ (List.mem_of_getElem? (i := 8) rfl)) <|
  sd_goto (pc := 82) (tgt := 86) (kt_tab_get kx_M_look 42 rfl) rfl (sd_drop (k := 0) kz_M_look_86)
noncomputable def kd_M_look_73 : kt_D := ki_iload 1 <| ki_push (.int 4) <| ki_icmp_ne (ki_drop 1 (ki_drop 0 kd_M_look_85)) (ki_drop 1 kd_M_look_78)
theorem kz_M_look_73 : kt_Snd l kt_shM kb_M_look 2 RX7 (some .int) 0 0 0 false false 73 kd_M_look_73 :=
  sd_iload_n (pc := 73) (kt_tab_get kx_M_look 37 rfl) rfl <|
  sd_iconst (pc := 74) (kt_tab_get kx_M_look 38 rfl) kc_i_4 <|
  sd_icmp_ne (pc := 75) (tgt := 85) (kt_tab_get kx_M_look 39 rfl) rfl (sd_drop (k := 1) (sd_drop (k := 0) kz_M_look_85)) (sd_drop (k := 1) kz_M_look_78)
noncomputable def kd_M_look_66 : kt_D := ki_aload 0 <| ki_get kt_shM 7 8 <| (ki_drop 0 kd_M_look_86)
theorem kz_M_look_66 : kt_Snd l kt_shM kb_M_look 2 RX7 (some .int) 0 0 0 false false 66 kd_M_look_66 :=
  sd_aload_n (pc := 66) (kt_tab_get kx_M_look 34 rfl) rfl <|
  sd_get (pc := 67) (k := 8) (ci := 7) kt_hc7 kt_hin7 (by decide) (kt_tab_get kx_M_look 35 rfl) (kg_M_look_in _ (List.mem_of_getElem? (i := 9) rfl)) <|
  sd_goto (pc := 70) (tgt := 86) (kt_tab_get kx_M_look 36 rfl) rfl (sd_drop (k := 0) kz_M_look_86)
noncomputable def kd_M_look_61 : kt_D := ki_iload 1 <| ki_push (.int 3) <| ki_icmp_ne kd_M_look_73 (ki_drop 1 kd_M_look_66)
theorem kz_M_look_61 : kt_Snd l kt_shM kb_M_look 2 RX7 (some .int) 0 0 0 false false 61 kd_M_look_61 :=
  sd_iload_n (pc := 61) (kt_tab_get kx_M_look 31 rfl) rfl <|
  sd_iconst (pc := 62) (kt_tab_get kx_M_look 32 rfl) kc_i_3 <|
  sd_icmp_ne (pc := 63) (tgt := 73) (kt_tab_get kx_M_look 33 rfl) rfl kz_M_look_73 (sd_drop (k := 1) kz_M_look_66)
noncomputable def kd_M_look_54 : kt_D := ki_aload 0 <| ki_get kt_shM 7 7 <| (ki_drop 0 kd_M_look_86)
theorem kz_M_look_54 : kt_Snd l kt_shM kb_M_look 2 RX7 (some .int) 0 0 0 false false 54 kd_M_look_54 :=
  sd_aload_n (pc := 54) (kt_tab_get kx_M_look 28 rfl) rfl <|
  sd_get (pc := 55) (k := 7) (ci := 7) kt_hc7 kt_hin7 (by decide) (kt_tab_get kx_M_look 29 rfl) (kg_M_look_in _ (List.mem_of_getElem? (i := 10) rfl)) <|
  sd_goto (pc := 58) (tgt := 86) (kt_tab_get kx_M_look 30 rfl) rfl (sd_drop (k := 0) kz_M_look_86)
noncomputable def kd_M_look_49 : kt_D := ki_iload 1 <| ki_push (.int 2) <| ki_icmp_ne kd_M_look_61 (ki_drop 1 kd_M_look_54)
theorem kz_M_look_49 : kt_Snd l kt_shM kb_M_look 2 RX7 (some .int) 0 0 0 false false 49 kd_M_look_49 :=
  sd_iload_n (pc := 49) (kt_tab_get kx_M_look 25 rfl) rfl <|
  sd_iconst (pc := 50) (kt_tab_get kx_M_look 26 rfl) kc_i_2 <|
  sd_icmp_ne (pc := 51) (tgt := 61) (kt_tab_get kx_M_look 27 rfl) rfl kz_M_look_61 (sd_drop (k := 1) kz_M_look_54)
noncomputable def kd_M_look_45 : kt_D := ki_push (.int 0) <| kd_M_look_86
theorem kz_M_look_45 : kt_Snd l kt_shM kb_M_look 2 RX7 (some .int) 0 0 0 false false 45 kd_M_look_45 :=
  sd_iconst (pc := 45) (kt_tab_get kx_M_look 23 rfl) kc_i_0 <|
  sd_goto (pc := 46) (tgt := 86) (kt_tab_get kx_M_look 24 rfl) rfl kz_M_look_86
noncomputable def kd_M_look_41 : kt_D := ki_push (.int 1) <| kd_M_look_86
theorem kz_M_look_41 : kt_Snd l kt_shM kb_M_look 2 RX7 (some .int) 0 0 0 false false 41 kd_M_look_41 :=
  sd_iconst (pc := 41) (kt_tab_get kx_M_look 21 rfl) kc_i_1 <|
  sd_goto (pc := 42) (tgt := 86) (kt_tab_get kx_M_look 22 rfl) rfl kz_M_look_86
noncomputable def kd_M_look_34 : kt_D := ki_aload 0 <| ki_get kt_shM 7 6 <| ki_if_eq (ki_drop 0 kd_M_look_45) (ki_drop 0 kd_M_look_41)
theorem kz_M_look_34 : kt_Snd l kt_shM kb_M_look 2 RX7 (some .int) 0 0 0 false false 34 kd_M_look_34 :=
  sd_aload_n (pc := 34) (kt_tab_get kx_M_look 18 rfl) rfl <|
  sd_get (pc := 35) (k := 6) (ci := 7) kt_hc7 kt_hin7 (by decide) (kt_tab_get kx_M_look 19 rfl) (kg_M_look_in _ (List.mem_of_getElem? (i := 11) rfl)) <|
  sd_if_eq (pc := 38) (tgt := 45) (kt_tab_get kx_M_look 20 rfl) rfl (sd_drop (k := 0) kz_M_look_45) (sd_drop (k := 0) kz_M_look_41)
noncomputable def kd_M_look_29 : kt_D := ki_iload 1 <| ki_push (.int 1) <| ki_icmp_ne kd_M_look_49 (ki_drop 1 kd_M_look_34)
theorem kz_M_look_29 : kt_Snd l kt_shM kb_M_look 2 RX7 (some .int) 0 0 0 false false 29 kd_M_look_29 :=
  sd_iload_n (pc := 29) (kt_tab_get kx_M_look 15 rfl) rfl <|
  sd_iconst (pc := 30) (kt_tab_get kx_M_look 16 rfl) kc_i_1 <|
  sd_icmp_ne (pc := 31) (tgt := 49) (kt_tab_get kx_M_look 17 rfl) rfl kz_M_look_49 (sd_drop (k := 1) kz_M_look_34)
noncomputable def kd_M_look_25 : kt_D := ki_push (.int 0) <| kd_M_look_86
theorem kz_M_look_25 : kt_Snd l kt_shM kb_M_look 2 RX7 (some .int) 0 0 0 false false 25 kd_M_look_25 :=
  sd_iconst (pc := 25) (kt_tab_get kx_M_look 13 rfl) kc_i_0 <|
  sd_goto (pc := 26) (tgt := 86) (kt_tab_get kx_M_look 14 rfl) rfl kz_M_look_86
noncomputable def kd_M_look_21 : kt_D := ki_push (.int 1) <| kd_M_look_86
theorem kz_M_look_21 : kt_Snd l kt_shM kb_M_look 2 RX7 (some .int) 0 0 0 false false 21 kd_M_look_21 :=
  sd_iconst (pc := 21) (kt_tab_get kx_M_look 11 rfl) kc_i_1 <|
  sd_goto (pc := 22) (tgt := 86) (kt_tab_get kx_M_look 12 rfl) rfl kz_M_look_86
noncomputable def kd_M_look_14 : kt_D := ki_aload 0 <| ki_get kt_shM 7 5 <| ki_if_eq (ki_drop 0 kd_M_look_25) (ki_drop 0 kd_M_look_21)
theorem kz_M_look_14 : kt_Snd l kt_shM kb_M_look 2 RX7 (some .int) 0 0 0 false false 14 kd_M_look_14 :=
  sd_aload_n (pc := 14) (kt_tab_get kx_M_look 8 rfl) rfl <|
  sd_get (pc := 15) (k := 5) (ci := 7) kt_hc7 kt_hin7 (by decide) (kt_tab_get kx_M_look 9 rfl) (kg_M_look_in _ (List.mem_of_getElem? (i := 12) rfl)) <|
  sd_if_eq (pc := 18) (tgt := 25) (kt_tab_get kx_M_look 10 rfl) rfl (sd_drop (k := 0) kz_M_look_25) (sd_drop (k := 0) kz_M_look_21)
noncomputable def kd_M_look_10 : kt_D := ki_iload 1 <| ki_if_ne kd_M_look_29 (ki_drop 1 kd_M_look_14)
theorem kz_M_look_10 : kt_Snd l kt_shM kb_M_look 2 RX7 (some .int) 0 0 0 false false 10 kd_M_look_10 :=
  sd_iload_n (pc := 10) (kt_tab_get kx_M_look 6 rfl) rfl <|
  sd_if_ne (pc := 11) (tgt := 29) (kt_tab_get kx_M_look 7 rfl) rfl kz_M_look_29 (sd_drop (k := 1) kz_M_look_14)
noncomputable def kd_M_look_0 : kt_D := ki_aload 0 <| ki_push (.int 0) <| ki_put kt_shM 7 0 0 <| ki_iload 1 <| ki_push (.int 5) <| ki_icmp_ge kd_M_look_87 kd_M_look_10
theorem kz_M_look_0 : kt_Snd l kt_shM kb_M_look 2 RX7 (some .int) 0 0 0 false false 0 kd_M_look_0 :=
  sd_aload_n (pc := 0) (kt_tab_get kx_M_look 0 rfl) rfl <|
  sd_iconst (pc := 1) (kt_tab_get kx_M_look 1 rfl) kc_i_0 <|
  sd_put (pc := 2) (k := 0) (ci := 7) kt_hc7 kt_hin7 tyX7_ok nmX7 (by decide) rfl rfl (Or.inl ⟨rfl, rfl⟩) (kt_tab_get kx_M_look 2 rfl) (kg_M_look_in _ (List.mem_of_getElem? (i := 13) rfl)) <|
  sd_iload_n (pc := 5) (kt_tab_get kx_M_look 3 rfl) rfl <|
  sd_iconst (pc := 6) (kt_tab_get kx_M_look 4 rfl) kc_i_5 <|
  sd_icmp_ge (pc := 7) (tgt := 87) (kt_tab_get kx_M_look 5 rfl) rfl kz_M_look_87 kz_M_look_10
noncomputable def kf_M_look : kt_F := kt_run 2 kd_M_look_0
theorem km_M_look : kt_M l kt_shM ky_M_look kb_M_look 2 (some .int) 0 false kf_M_look := kt_method (by decide) rfl kz_M_look_0
end
