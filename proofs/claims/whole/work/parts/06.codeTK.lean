section
variable {l : Launch}
noncomputable def kd_T_comeOn_0 : kt_D := ki_aload 0 <| ki_push (.int 1) <| ki_put kt_shC 5 5 1 <| ki_aload 0 <| ki_get kt_shC 5 0 <| ki_callV kt_shC 4 0 kf_S_lookThrough <| ki_vret
theorem kz_T_comeOn_0 : kt_Snd l kt_shC kb_T_comeOn 1 RX5 none 5 0 0 false false 0 kd_T_comeOn_0 :=
  sd_aload_n (pc := 0) (kt_tab_get kx_T_comeOn 0 rfl) rfl <|
  sd_iconst (pc := 1) (kt_tab_get kx_T_comeOn 1 rfl) kc_i_1 <|
  sd_put (pc := 2) (k := 5) (ci := 5) kt_hc5 kt_hin5 tyX5_ok nmX5 (by decide) rfl rfl (Or.inr ⟨rfl, rfl⟩) (kt_tab_get kx_T_comeOn 2 rfl) (kg_T_comeOn_in _ (List.mem_of_getElem? (i := 4) rfl)) <|
  sd_aload_n (pc := 5) (kt_tab_get kx_T_comeOn 3 rfl) rfl <|
  sd_get (pc := 6) (k := 0) (ci := 5) kt_hc5 kt_hin5 (by decide) (kt_tab_get kx_T_comeOn 4 rfl) (kg_T_comeOn_in _ (List.mem_of_getElem? (i := 5) rfl)) <|
  sd_callV (pc := 9) km_S_lookThrough (by decide) kv_S_lookThrough (ci := 4) kt_hc4 (by decide) (kt_tab_get kx_T_comeOn 5 rfl) (kg_T_comeOn_in _ (List.mem_of_getElem? (i := 6) rfl)) <|
  sd_vret (pc := 12) rfl (by decide) (kt_tab_get kx_T_comeOn 6 rfl)
noncomputable def kf_T_comeOn : kt_F := kt_run 1 kd_T_comeOn_0
theorem km_T_comeOn : kt_M l kt_shC ky_T_comeOn kb_T_comeOn 1 none 5 false kf_T_comeOn := kt_method (by decide) rfl kz_T_comeOn_0
noncomputable def kd_T_forgetNext_0 : kt_D := ki_aload 0 <| ki_push (.int 0) <| ki_put kt_shC 5 9 0 <| ki_aload 0 <| ki_push (.int 0) <| ki_put kt_shC 5 10 0 <| ki_vret
theorem kz_T_forgetNext_0 : kt_Snd l kt_shC kb_T_forgetNext 1 RX5 none 0 0 0 false false 0 kd_T_forgetNext_0 :=
  sd_aload_n (pc := 0) (kt_tab_get kx_T_forgetNext 0 rfl) rfl <|
  sd_iconst (pc := 1) (kt_tab_get kx_T_forgetNext 1 rfl) kc_i_0 <|
  sd_put (pc := 2) (k := 9) (ci := 5) kt_hc5 kt_hin5 tyX5_ok nmX5 (by decide) rfl rfl (Or.inl ⟨rfl, rfl⟩) (kt_tab_get kx_T_forgetNext 2 rfl) (kg_T_forgetNext_in _ (List.mem_of_getElem? (i := 4) rfl)) <|
  sd_aload_n (pc := 5) (kt_tab_get kx_T_forgetNext 3 rfl) rfl <|
  sd_iconst (pc := 6) (kt_tab_get kx_T_forgetNext 4 rfl) kc_i_0 <|
  sd_put (pc := 7) (k := 10) (ci := 5) kt_hc5 kt_hin5 tyX5_ok nmX5 (by decide) rfl rfl (Or.inl ⟨rfl, rfl⟩) (kt_tab_get kx_T_forgetNext 5 rfl) (kg_T_forgetNext_in _ (List.mem_of_getElem? (i := 5) rfl)) <|
  sd_vret (pc := 10) rfl (by decide) (kt_tab_get kx_T_forgetNext 6 rfl)
noncomputable def kf_T_forgetNext : kt_F := kt_run 1 kd_T_forgetNext_0
theorem km_T_forgetNext : kt_M l kt_shC ky_T_forgetNext kb_T_forgetNext 1 none 0 false kf_T_forgetNext := kt_method (by decide) rfl kz_T_forgetNext_0
noncomputable def kd_T_goOff_0 : kt_D := ki_aload 0 <| ki_push (.int 0) <| ki_put kt_shC 5 5 1 <| ki_aload 0 <| ki_push (.int 0) <| ki_put kt_shC 5 6 1 <| ki_aload 0 <| ki_push (.int 0) <| ki_put kt_shC 5 7 0 <| ki_aload 0 <| ki_push (.int 0) <| ki_put kt_shC 5 8 0 <| ki_aload 0 <| ki_get kt_shC 5 2 <| ki_get kt_shC 2 0 <| ki_callV kt_shC 0 0 kf_B_clear <| ki_aload 0 <| ki_get kt_shC 5 3 <| ki_callV kt_shC 0 0 kf_B_clear <| ki_aload 0 <| ki_callV kt_shC 5 0 kf_T_forgetNext <| ki_aload 0 <| ki_get kt_shC 5 0 <| ki_push (.int (-1)) <| ki_put kt_shC 4 2 0 <| ki_vret
theorem kz_T_goOff_0 : kt_Snd l kt_shC kb_T_goOff 1 RX5 none 1 0 0 false false 0 kd_T_goOff_0 :=
  sd_aload_n (pc := 0) (kt_tab_get kx_T_goOff 0 rfl) rfl <|
  sd_iconst (pc := 1) (kt_tab_get kx_T_goOff 1 rfl) kc_i_0 <|
  sd_put (pc := 2) (k := 5) (ci := 5) kt_hc5 kt_hin5 tyX5_ok nmX5 (by decide) rfl rfl (Or.inr ⟨rfl, rfl⟩) (kt_tab_get kx_T_goOff 2 rfl) (kg_T_goOff_in _ (List.mem_of_getElem? (i := 4) rfl)) <|
  sd_aload_n (pc := 5) (kt_tab_get kx_T_goOff 3 rfl) rfl <|
  sd_iconst (pc := 6) (kt_tab_get kx_T_goOff 4 rfl) kc_i_0 <|
  sd_put (pc := 7) (k := 6) (ci := 5) kt_hc5 kt_hin5 tyX5_ok nmX5 (by decide) rfl rfl (Or.inr ⟨rfl, rfl⟩) (kt_tab_get kx_T_goOff 5 rfl) (kg_T_goOff_in _ (List.mem_of_getElem? (i := 5) rfl)) <|
  sd_aload_n (pc := 10) (kt_tab_get kx_T_goOff 6 rfl) rfl <|
  sd_iconst (pc := 11) (kt_tab_get kx_T_goOff 7 rfl) kc_i_0 <|
  sd_put (pc := 12) (k := 7) (ci := 5) kt_hc5 kt_hin5 tyX5_ok nmX5 (by decide) rfl rfl (Or.inl ⟨rfl, rfl⟩) (kt_tab_get kx_T_goOff 8 rfl) (kg_T_goOff_in _ (List.mem_of_getElem? (i := 6) rfl)) <|
  sd_aload_n (pc := 15) (kt_tab_get kx_T_goOff 9 rfl) rfl <|
  sd_iconst (pc := 16) (kt_tab_get kx_T_goOff 10 rfl) kc_i_0 <|
  sd_put (pc := 17) (k := 8) (ci := 5) kt_hc5 kt_hin5 tyX5_ok nmX5 (by decide) rfl rfl (Or.inl ⟨rfl, rfl⟩) (kt_tab_get kx_T_goOff 11 rfl) (kg_T_goOff_in _ (List.mem_of_getElem? (i := 7) rfl)) <|
  sd_aload_n (pc := 20) (kt_tab_get kx_T_goOff 12 rfl) rfl <|
  sd_get (pc := 21) (k := 2) (ci := 5) kt_hc5 kt_hin5 (by decide) (kt_tab_get kx_T_goOff 13 rfl) (kg_T_goOff_in _ (List.mem_of_getElem? (i := 8) rfl)) <|
  sd_getN (pc := 24) (k := 0) (ci := 2) kt_hc2 kt_hin2 (by decide) (kt_tab_get kx_T_goOff 14 rfl) (List.mem_of_getElem? (i := 2) rfl) <|
  sd_callV (pc := 27) km_B_clear (by decide) kv_B_clear (ci := 0) kt_hc0 (by decide) (kt_tab_get kx_T_goOff 15 rfl) (kg_T_goOff_in _ (List.mem_of_getElem? (i := 9) rfl)) <|
  sd_aload_n (pc := 30) (kt_tab_get kx_T_goOff 16 rfl) rfl <|
  sd_get (pc := 31) (k := 3) (ci := 5) kt_hc5 kt_hin5 (by decide) (kt_tab_get kx_T_goOff 17 rfl) (kg_T_goOff_in _ (List.mem_of_getElem? (i := 10) rfl)) <|
  sd_callV (pc := 34) km_B_clear (by decide) kv_B_clear (ci := 0) kt_hc0 (by decide) (kt_tab_get kx_T_goOff 18 rfl) (kg_T_goOff_in _ (List.mem_of_getElem? (i := 9) rfl)) <|
  sd_aload_n (pc := 37) (kt_tab_get kx_T_goOff 19 rfl) rfl <|
  sd_callV (pc := 38) km_T_forgetNext (by decide) kv_T_forgetNext (ci := 5) kt_hc5 (by decide) (kt_tab_get kx_T_goOff 20 rfl) (kg_T_goOff_in _ (List.mem_of_getElem? (i := 11) rfl)) <|
  sd_aload_n (pc := 41) (kt_tab_get kx_T_goOff 21 rfl) rfl <|
  sd_get (pc := 42) (k := 0) (ci := 5) kt_hc5 kt_hin5 (by decide) (kt_tab_get kx_T_goOff 22 rfl) (kg_T_goOff_in _ (List.mem_of_getElem? (i := 12) rfl)) <|
  sd_iconst (pc := 45) (kt_tab_get kx_T_goOff 23 rfl) kc_i_m1 <|
  sd_putN (pc := 46) (k := 2) (ci := 4) kt_hc4 kt_hin4 tyX4_ok nmX4 (by decide) rfl rfl (Or.inl ⟨rfl, rfl⟩) (kt_tab_get kx_T_goOff 24 rfl) (List.mem_of_getElem? (i := 3) rfl) <|
  sd_vret (pc := 49) rfl (by decide) (kt_tab_get kx_T_goOff 25 rfl)
noncomputable def kf_T_goOff : kt_F := kt_run 1 kd_T_goOff_0
theorem km_T_goOff : kt_M l kt_shC ky_T_goOff kb_T_goOff 1 none 1 false kf_T_goOff := kt_method (by decide) rfl kz_T_goOff_0
noncomputable def kd_T_isCommand_38 : kt_D := ki_zret
theorem kz_T_isCommand_38 : kt_Snd l kt_shC kb_T_isCommand 1 RX5 (some .boolean) 0 0 0 true true 38 kd_T_isCommand_38 :=
  sd_zret (pc := 38) rfl (by decide) (kt_tab_get kx_T_isCommand 21 rfl)
noncomputable def kd_T_isCommand_33 : kt_D := ki_push (.int 1) <| kd_T_isCommand_38
theorem kz_T_isCommand_33 : kt_Snd l kt_shC kb_T_isCommand 1 RX5 (some .boolean) 0 0 0 true true 33 kd_T_isCommand_33 :=
  sd_iconst (pc := 33) (kt_tab_get kx_T_isCommand 18 rfl) kc_i_1 <|
  sd_goto (pc := 34) (tgt := 38) (kt_tab_get kx_T_isCommand 19 rfl) rfl kz_T_isCommand_38
noncomputable def kd_T_isCommand_37 : kt_D := ki_push (.int 0) <| kd_T_isCommand_38
theorem kz_T_isCommand_37 : kt_Snd l kt_shC kb_T_isCommand 1 RX5 (some .boolean) 0 0 0 true true 37 kd_T_isCommand_37 :=
  sd_iconst (pc := 37) (kt_tab_get kx_T_isCommand 20 rfl) kc_i_0 <|
  kz_T_isCommand_38
noncomputable def kd_T_isCommand_27 : kt_D := ki_iload 0 <| ki_push (.int 8) <| ki_icmp_ne (ki_drop 0 kd_T_isCommand_37) (ki_drop 0 kd_T_isCommand_33)
theorem kz_T_isCommand_27 : kt_Snd l kt_shC kb_T_isCommand 1 RX5 (some .boolean) 0 0 0 true true 27 kd_T_isCommand_27 :=
  sd_iload_n (pc := 27) (kt_tab_get kx_T_isCommand 15 rfl) rfl <|
  sd_bipush (pc := 28) (kt_tab_get kx_T_isCommand 16 rfl) kc_b_8 <|
  sd_icmp_ne (pc := 30) (tgt := 37) (kt_tab_get kx_T_isCommand 17 rfl) rfl (sd_drop (k := 0) kz_T_isCommand_37) (sd_drop (k := 0) kz_T_isCommand_33)
noncomputable def kd_T_isCommand_21 : kt_D := ki_iload 0 <| ki_push (.int 7) <| ki_icmp_eq (ki_drop 0 kd_T_isCommand_33) kd_T_isCommand_27
theorem kz_T_isCommand_21 : kt_Snd l kt_shC kb_T_isCommand 1 RX5 (some .boolean) 0 0 0 true true 21 kd_T_isCommand_21 :=
  sd_iload_n (pc := 21) (kt_tab_get kx_T_isCommand 12 rfl) rfl <|
  sd_bipush (pc := 22) (kt_tab_get kx_T_isCommand 13 rfl) kc_b_7 <|
  sd_icmp_eq (pc := 24) (tgt := 33) (kt_tab_get kx_T_isCommand 14 rfl) rfl (sd_drop (k := 0) kz_T_isCommand_33) kz_T_isCommand_27
noncomputable def kd_T_isCommand_15 : kt_D := ki_iload 0 <| ki_push (.int 6) <| ki_icmp_eq (ki_drop 0 kd_T_isCommand_33) kd_T_isCommand_21
theorem kz_T_isCommand_15 : kt_Snd l kt_shC kb_T_isCommand 1 RX5 (some .boolean) 0 0 0 true true 15 kd_T_isCommand_15 :=
  sd_iload_n (pc := 15) (kt_tab_get kx_T_isCommand 9 rfl) rfl <|
  sd_bipush (pc := 16) (kt_tab_get kx_T_isCommand 10 rfl) kc_b_6 <|
  sd_icmp_eq (pc := 18) (tgt := 33) (kt_tab_get kx_T_isCommand 11 rfl) rfl (sd_drop (k := 0) kz_T_isCommand_33) kz_T_isCommand_21
noncomputable def kd_T_isCommand_10 : kt_D := ki_iload 0 <| ki_push (.int 4) <| ki_icmp_eq (ki_drop 0 kd_T_isCommand_33) kd_T_isCommand_15
theorem kz_T_isCommand_10 : kt_Snd l kt_shC kb_T_isCommand 1 RX5 (some .boolean) 0 0 0 true true 10 kd_T_isCommand_10 :=
  sd_iload_n (pc := 10) (kt_tab_get kx_T_isCommand 6 rfl) rfl <|
  sd_iconst (pc := 11) (kt_tab_get kx_T_isCommand 7 rfl) kc_i_4 <|
  sd_icmp_eq (pc := 12) (tgt := 33) (kt_tab_get kx_T_isCommand 8 rfl) rfl (sd_drop (k := 0) kz_T_isCommand_33) kz_T_isCommand_15
noncomputable def kd_T_isCommand_5 : kt_D := ki_iload 0 <| ki_push (.int 2) <| ki_icmp_eq (ki_drop 0 kd_T_isCommand_33) kd_T_isCommand_10
theorem kz_T_isCommand_5 : kt_Snd l kt_shC kb_T_isCommand 1 RX5 (some .boolean) 0 0 0 true true 5 kd_T_isCommand_5 :=
  sd_iload_n (pc := 5) (kt_tab_get kx_T_isCommand 3 rfl) rfl <|
  sd_iconst (pc := 6) (kt_tab_get kx_T_isCommand 4 rfl) kc_i_2 <|
  sd_icmp_eq (pc := 7) (tgt := 33) (kt_tab_get kx_T_isCommand 5 rfl) rfl (sd_drop (k := 0) kz_T_isCommand_33) kz_T_isCommand_10
noncomputable def kd_T_isCommand_0 : kt_D := ki_iload 0 <| ki_push (.int 1) <| ki_icmp_eq (ki_drop 0 kd_T_isCommand_33) kd_T_isCommand_5
theorem kz_T_isCommand_0 : kt_Snd l kt_shC kb_T_isCommand 1 RX5 (some .boolean) 0 0 0 true true 0 kd_T_isCommand_0 :=
  sd_iload_n (pc := 0) (kt_tab_get kx_T_isCommand 0 rfl) rfl <|
  sd_iconst (pc := 1) (kt_tab_get kx_T_isCommand 1 rfl) kc_i_1 <|
  sd_icmp_eq (pc := 2) (tgt := 33) (kt_tab_get kx_T_isCommand 2 rfl) rfl (sd_drop (k := 0) kz_T_isCommand_33) kz_T_isCommand_5
noncomputable def kf_T_isCommand : kt_F := kt_run 1 kd_T_isCommand_0
theorem km_T_isCommand : kt_M l kt_shC ky_T_isCommand kb_T_isCommand 1 (some .boolean) 0 true kf_T_isCommand := kt_method (by decide) rfl kz_T_isCommand_0
noncomputable def kd_T_beginAnswer_0 : kt_D := ki_aload 0 <| ki_get kt_shC 5 3 <| ki_push (.int 0) <| ki_callV kt_shC 0 1 kf_B_add <| ki_aload 0 <| ki_get kt_shC 5 3 <| ki_push (.int 5) <| ki_iload 1 <| ki_callV kt_shC 0 2 kf_B_addHead <| ki_vret
theorem kz_T_beginAnswer_0 : kt_Snd l kt_shC kb_T_beginAnswer 2 RX5 none 2 0 0 false false 0 kd_T_beginAnswer_0 :=
  sd_aload_n (pc := 0) (kt_tab_get kx_T_beginAnswer 0 rfl) rfl <|
  sd_get (pc := 1) (k := 3) (ci := 5) kt_hc5 kt_hin5 (by decide) (kt_tab_get kx_T_beginAnswer 1 rfl) (kg_T_beginAnswer_in _ (List.mem_of_getElem? (i := 4) rfl)) <|
  sd_iconst (pc := 4) (kt_tab_get kx_T_beginAnswer 2 rfl) kc_i_0 <|
  sd_callV (pc := 5) km_B_add (by decide) kv_B_add (ci := 0) kt_hc0 (by decide) (kt_tab_get kx_T_beginAnswer 3 rfl) (kg_T_beginAnswer_in _ (List.mem_of_getElem? (i := 5) rfl)) <|
  sd_aload_n (pc := 8) (kt_tab_get kx_T_beginAnswer 4 rfl) rfl <|
  sd_get (pc := 9) (k := 3) (ci := 5) kt_hc5 kt_hin5 (by decide) (kt_tab_get kx_T_beginAnswer 5 rfl) (kg_T_beginAnswer_in _ (List.mem_of_getElem? (i := 4) rfl)) <|
  sd_iconst (pc := 12) (kt_tab_get kx_T_beginAnswer 6 rfl) kc_i_5 <|
  sd_iload_n (pc := 13) (kt_tab_get kx_T_beginAnswer 7 rfl) rfl <|
  sd_callV (pc := 14) km_B_addHead (by decide) kv_B_addHead (ci := 0) kt_hc0 (by decide) (kt_tab_get kx_T_beginAnswer 8 rfl) (kg_T_beginAnswer_in _ (List.mem_of_getElem? (i := 6) rfl)) <|
  sd_vret (pc := 17) rfl (by decide) (kt_tab_get kx_T_beginAnswer 9 rfl)
noncomputable def kf_T_beginAnswer : kt_F := kt_run 2 kd_T_beginAnswer_0
theorem km_T_beginAnswer : kt_M l kt_shC ky_T_beginAnswer kb_T_beginAnswer 2 none 2 false kf_T_beginAnswer := kt_method (by decide) rfl kz_T_beginAnswer_0
noncomputable def kd_T_signWith_179 : kt_D := ki_aload 0 <| ki_get kt_shC 5 3 <| ki_push (.int 6) <| ki_iload 5 <| ki_callV kt_shC 0 2 kf_B_addPair <| ki_push (.int 0) <| ki_iret
theorem kz_T_signWith_179 : kt_Snd l kt_shC kb_T_signWith 8 RX5 (some .int) 3 0 0 false false 179 kd_T_signWith_179 :=
  sd_aload_n (pc := 179) (kt_tab_get kx_T_signWith 95 rfl) rfl <|
  sd_get (pc := 180) (k := 3) (ci := 5) kt_hc5 kt_hin5 (by decide) (kt_tab_get kx_T_signWith 96 rfl) (kg_T_signWith_in _ (List.mem_of_getElem? (i := 4) rfl)) <|
  sd_bipush (pc := 183) (kt_tab_get kx_T_signWith 97 rfl) kc_b_6 <|
  sd_iload (pc := 185) (kt_tab_get kx_T_signWith 98 rfl) <|
  sd_callV (pc := 187) km_B_addPair (by decide) kv_B_addPair (ci := 0) kt_hc0 (by decide) (kt_tab_get kx_T_signWith 99 rfl) (kg_T_signWith_in _ (List.mem_of_getElem? (i := 5) rfl)) <|
  sd_iconst (pc := 190) (kt_tab_get kx_T_signWith 100 rfl) kc_i_0 <|
  sd_iret (pc := 191) rfl (by decide) (kt_tab_get kx_T_signWith 101 rfl)
noncomputable def kd_T_signWith_170 : kt_D := ki_aload 0 <| ki_get kt_shC 5 3 <| ki_push (.int 5) <| ki_iload 2 <| ki_callV kt_shC 0 2 kf_B_addPair <| (ki_drop 2 kd_T_signWith_179)
theorem kz_T_signWith_170 : kt_Snd l kt_shC kb_T_signWith 8 RX5 (some .int) 3 0 0 false false 170 kd_T_signWith_170 :=
  sd_aload_n (pc := 170) (kt_tab_get kx_T_signWith 90 rfl) rfl <|
  sd_get (pc := 171) (k := 3) (ci := 5) kt_hc5 kt_hin5 (by decide) (kt_tab_get kx_T_signWith 91 rfl) (kg_T_signWith_in _ (List.mem_of_getElem? (i := 4) rfl)) <|
  sd_iconst (pc := 174) (kt_tab_get kx_T_signWith 92 rfl) kc_i_5 <|
  sd_iload_n (pc := 175) (kt_tab_get kx_T_signWith 93 rfl) rfl <|
  sd_callV (pc := 176) km_B_addPair (by decide) kv_B_addPair (ci := 0) kt_hc0 (by decide) (kt_tab_get kx_T_signWith 94 rfl) (kg_T_signWith_in _ (List.mem_of_getElem? (i := 5) rfl)) <|
  (sd_drop (k := 2) kz_T_signWith_179)
noncomputable def kd_T_signWith_119 : kt_D := ki_callV kt_shC 5 1 kf_T_beginAnswer <| ki_aload 0 <| ki_get kt_shC 5 3 <| ki_push (.int 1) <| ki_iload 1 <| ki_callV kt_shC 0 2 kf_B_addPair <| ki_aload 0 <| ki_get kt_shC 5 3 <| ki_push (.int 2) <| ki_iload 6 <| ki_callV kt_shC 0 2 kf_B_addPair <| ki_aload 0 <| ki_get kt_shC 5 3 <| ki_push (.int 3) <| ki_aload 0 <| ki_get kt_shC 5 1 <| ki_get kt_shC 3 1 <| ki_callV kt_shC 0 2 kf_B_addPair <| ki_aload 0 <| ki_get kt_shC 5 3 <| ki_push (.int 4) <| ki_iload 7 <| ki_callV kt_shC 0 2 kf_B_addPair <| ki_iload 2 <| ki_if_le (ki_drop 7 (ki_drop 6 (ki_drop 2 (ki_drop 1 kd_T_signWith_179)))) (ki_drop 7 (ki_drop 6 (ki_drop 1 kd_T_signWith_170)))
theorem kz_T_signWith_119 : kt_Snd l kt_shC kb_T_signWith 8 RX5 (some .int) 3 0 0 false false 119 kd_T_signWith_119 :=
  sd_callV (pc := 119) km_T_beginAnswer (by decide) kv_T_beginAnswer (ci := 5) kt_hc5 (by decide) (kt_tab_get kx_T_signWith 65 rfl) (kg_T_signWith_in _ (List.mem_of_getElem? (i := 6) rfl)) <|
  sd_aload_n (pc := 122) (kt_tab_get kx_T_signWith 66 rfl) rfl <|
  sd_get (pc := 123) (k := 3) (ci := 5) kt_hc5 kt_hin5 (by decide) (kt_tab_get kx_T_signWith 67 rfl) (kg_T_signWith_in _ (List.mem_of_getElem? (i := 4) rfl)) <|
  sd_iconst (pc := 126) (kt_tab_get kx_T_signWith 68 rfl) kc_i_1 <|
  sd_iload_n (pc := 127) (kt_tab_get kx_T_signWith 69 rfl) rfl <|
  sd_callV (pc := 128) km_B_addPair (by decide) kv_B_addPair (ci := 0) kt_hc0 (by decide) (kt_tab_get kx_T_signWith 70 rfl) (kg_T_signWith_in _ (List.mem_of_getElem? (i := 5) rfl)) <|
  sd_aload_n (pc := 131) (kt_tab_get kx_T_signWith 71 rfl) rfl <|
  sd_get (pc := 132) (k := 3) (ci := 5) kt_hc5 kt_hin5 (by decide) (kt_tab_get kx_T_signWith 72 rfl) (kg_T_signWith_in _ (List.mem_of_getElem? (i := 4) rfl)) <|
  sd_iconst (pc := 135) (kt_tab_get kx_T_signWith 73 rfl) kc_i_2 <|
  sd_iload (pc := 136) (kt_tab_get kx_T_signWith 74 rfl) <|
  sd_callV (pc := 138) km_B_addPair (by decide) kv_B_addPair (ci := 0) kt_hc0 (by decide) (kt_tab_get kx_T_signWith 75 rfl) (kg_T_signWith_in _ (List.mem_of_getElem? (i := 5) rfl)) <|
  sd_aload_n (pc := 141) (kt_tab_get kx_T_signWith 76 rfl) rfl <|
  sd_get (pc := 142) (k := 3) (ci := 5) kt_hc5 kt_hin5 (by decide) (kt_tab_get kx_T_signWith 77 rfl) (kg_T_signWith_in _ (List.mem_of_getElem? (i := 4) rfl)) <|
  sd_iconst (pc := 145) (kt_tab_get kx_T_signWith 78 rfl) kc_i_3 <|
  sd_aload_n (pc := 146) (kt_tab_get kx_T_signWith 79 rfl) rfl <|
  sd_get (pc := 147) (k := 1) (ci := 5) kt_hc5 kt_hin5 (by decide) (kt_tab_get kx_T_signWith 80 rfl) (kg_T_signWith_in _ (List.mem_of_getElem? (i := 7) rfl)) <|
  sd_getN (pc := 150) (k := 1) (ci := 3) kt_hc3 kt_hin3 (by decide) (kt_tab_get kx_T_signWith 81 rfl) (List.mem_of_getElem? (i := 4) rfl) <|
  sd_callV (pc := 153) km_B_addPair (by decide) kv_B_addPair (ci := 0) kt_hc0 (by decide) (kt_tab_get kx_T_signWith 82 rfl) (kg_T_signWith_in _ (List.mem_of_getElem? (i := 5) rfl)) <|
  sd_aload_n (pc := 156) (kt_tab_get kx_T_signWith 83 rfl) rfl <|
  sd_get (pc := 157) (k := 3) (ci := 5) kt_hc5 kt_hin5 (by decide) (kt_tab_get kx_T_signWith 84 rfl) (kg_T_signWith_in _ (List.mem_of_getElem? (i := 4) rfl)) <|
  sd_iconst (pc := 160) (kt_tab_get kx_T_signWith 85 rfl) kc_i_4 <|
  sd_iload (pc := 161) (kt_tab_get kx_T_signWith 86 rfl) <|
  sd_callV (pc := 163) km_B_addPair (by decide) kv_B_addPair (ci := 0) kt_hc0 (by decide) (kt_tab_get kx_T_signWith 87 rfl) (kg_T_signWith_in _ (List.mem_of_getElem? (i := 5) rfl)) <|
  sd_iload_n (pc := 166) (kt_tab_get kx_T_signWith 88 rfl) rfl <|
  sd_if_le (pc := 167) (tgt := 179) (kt_tab_get kx_T_signWith 89 rfl) rfl (sd_drop (k := 7) (sd_drop (k := 6) (sd_drop (k := 2) (sd_drop (k := 1) kz_T_signWith_179)))) (sd_drop (k := 7) (sd_drop (k := 6) (sd_drop (k := 1) kz_T_signWith_170)))
noncomputable def kd_T_signWith_118 : kt_D := ki_push (.int 5) <| kd_T_signWith_119
theorem kz_T_signWith_118 : kt_Snd l kt_shC kb_T_signWith 8 RX5 (some .int) 3 0 0 false false 118 kd_T_signWith_118 :=
  sd_iconst (pc := 118) (kt_tab_get kx_T_signWith 64 rfl) kc_i_5 <|
  kz_T_signWith_119
noncomputable def kd_T_signWith_113 : kt_D := ki_push (.int 6) <| kd_T_signWith_119
theorem kz_T_signWith_113 : kt_Snd l kt_shC kb_T_signWith 8 RX5 (some .int) 3 0 0 false false 113 kd_T_signWith_113 :=
  sd_bipush (pc := 113) (kt_tab_get kx_T_signWith 62 rfl) kc_b_6 <|
  sd_goto (pc := 115) (tgt := 119) (kt_tab_get kx_T_signWith 63 rfl) rfl kz_T_signWith_119
noncomputable def kd_T_signWith_86 : kt_D := ki_aload 0 <| ki_get kt_shC 5 1 <| ki_push (.int 2) <| ki_iload 6 <| ki_iload 4 <| ki_aload 0 <| ki_get kt_shC 5 11 <| ki_iload 7 <| ki_aload 0 <| ki_get kt_shC 5 12 <| ki_callV kt_shC 3 6 kf_G_make <| ki_aload 0 <| ki_iload 2 <| ki_if_le (ki_drop 4 kd_T_signWith_118) (ki_drop 4 kd_T_signWith_113)
theorem kz_T_signWith_86 : kt_Snd l kt_shC kb_T_signWith 8 RX5 (some .int) 3 0 0 false false 86 kd_T_signWith_86 :=
  sd_aload_n (pc := 86) (kt_tab_get kx_T_signWith 48 rfl) rfl <|
  sd_get (pc := 87) (k := 1) (ci := 5) kt_hc5 kt_hin5 (by decide) (kt_tab_get kx_T_signWith 49 rfl) (kg_T_signWith_in _ (List.mem_of_getElem? (i := 7) rfl)) <|
  sd_iconst (pc := 90) (kt_tab_get kx_T_signWith 50 rfl) kc_i_2 <|
  sd_iload (pc := 91) (kt_tab_get kx_T_signWith 51 rfl) <|
  sd_iload (pc := 93) (kt_tab_get kx_T_signWith 52 rfl) <|
  sd_aload_n (pc := 95) (kt_tab_get kx_T_signWith 53 rfl) rfl <|
  sd_get (pc := 96) (k := 11) (ci := 5) kt_hc5 kt_hin5 (by decide) (kt_tab_get kx_T_signWith 54 rfl) (kg_T_signWith_in _ (List.mem_of_getElem? (i := 8) rfl)) <|
  sd_iload (pc := 99) (kt_tab_get kx_T_signWith 55 rfl) <|
  sd_aload_n (pc := 101) (kt_tab_get kx_T_signWith 56 rfl) rfl <|
  sd_get (pc := 102) (k := 12) (ci := 5) kt_hc5 kt_hin5 (by decide) (kt_tab_get kx_T_signWith 57 rfl) (kg_T_signWith_in _ (List.mem_of_getElem? (i := 9) rfl)) <|
  sd_callV (pc := 105) km_G_make (by decide) kv_G_make (ci := 3) kt_hc3 (by decide) (kt_tab_get kx_T_signWith 58 rfl) (kg_T_signWith_in _ (List.mem_of_getElem? (i := 10) rfl)) <|
  sd_aload_n (pc := 108) (kt_tab_get kx_T_signWith 59 rfl) rfl <|
  sd_iload_n (pc := 109) (kt_tab_get kx_T_signWith 60 rfl) rfl <|
  sd_if_le (pc := 110) (tgt := 118) (kt_tab_get kx_T_signWith 61 rfl) rfl (sd_drop (k := 4) kz_T_signWith_118) (sd_drop (k := 4) kz_T_signWith_113)
noncomputable def kd_T_signWith_84 : kt_D := ki_push (.int (-1)) <| ki_iret
theorem kz_T_signWith_84 : kt_Snd l kt_shC kb_T_signWith 8 RX5 (some .int) 3 0 0 false false 84 kd_T_signWith_84 :=
  sd_iconst (pc := 84) (kt_tab_get kx_T_signWith 46 rfl) kc_i_m1 <|
  sd_iret (pc := 85) rfl (by decide) (kt_tab_get kx_T_signWith 47 rfl)
noncomputable def kd_T_signWith_0 : kt_D := ki_aload 0 <| ki_dup <| ki_get kt_shC 5 9 <| ki_push (.int 1) <| ki_iadd <| ki_put kt_shC 5 9 0 <| ki_aload 0 <| ki_get kt_shC 5 0 <| ki_iload 1 <| ki_callV kt_shC 4 1 kf_S_pageOf <| ki_istore 3 <| ki_aload 0 <| ki_get kt_shC 5 0 <| ki_iload 3 <| ki_push (.int 1) <| ki_callV kt_shC 4 2 kf_S_read <| ki_istore 4 <| ki_aload 0 <| ki_get kt_shC 5 0 <| ki_iload 3 <| ki_push (.int 2) <| ki_callV kt_shC 4 2 kf_S_read <| ki_istore 5 <| ki_aload 0 <| ki_get kt_shC 5 0 <| ki_iload 3 <| ki_push (.int 3) <| ki_callV kt_shC 4 2 kf_S_read <| ki_istore 6 <| ki_aload 0 <| ki_get kt_shC 5 0 <| ki_iload 3 <| ki_push (.int 4) <| ki_callV kt_shC 4 2 kf_S_read <| ki_push (.int 1) <| ki_iadd <| ki_istore 7 <| ki_aload 0 <| ki_get kt_shC 5 0 <| ki_iload 1 <| ki_iload 4 <| ki_iload 5 <| ki_iload 6 <| ki_iload 7 <| ki_callV kt_shC 4 5 kf_S_put <| ki_if_ne (ki_drop 3 kd_T_signWith_86) (ki_drop 7 (ki_drop 6 (ki_drop 5 (ki_drop 4 (ki_drop 3 (ki_drop 2 (ki_drop 1 (ki_drop 0 kd_T_signWith_84))))))))
theorem kz_T_signWith_0 : kt_Snd l kt_shC kb_T_signWith 8 RX5 (some .int) 3 0 0 false false 0 kd_T_signWith_0 :=
  sd_aload_n (pc := 0) (kt_tab_get kx_T_signWith 0 rfl) rfl <|
  sd_dup (pc := 1) (kt_tab_get kx_T_signWith 1 rfl) <|
  sd_get (pc := 2) (k := 9) (ci := 5) kt_hc5 kt_hin5 (by decide) (kt_tab_get kx_T_signWith 2 rfl) (kg_T_signWith_in _ (List.mem_of_getElem? (i := 11) rfl)) <|
  sd_iconst (pc := 5) (kt_tab_get kx_T_signWith 3 rfl) kc_i_1 <|
  sd_iadd (pc := 6) (kt_tab_get kx_T_signWith 4 rfl) <|
  sd_put (pc := 7) (k := 9) (ci := 5) kt_hc5 kt_hin5 tyX5_ok nmX5 (by decide) rfl rfl (Or.inl ⟨rfl, rfl⟩) (kt_tab_get kx_T_signWith 5 rfl) (kg_T_signWith_in _ (List.mem_of_getElem? (i := 11) rfl)) <|
  sd_aload_n (pc := 10) (kt_tab_get kx_T_signWith 6 rfl) rfl <|
  sd_get (pc := 11) (k := 0) (ci := 5) kt_hc5 kt_hin5 (by decide) (kt_tab_get kx_T_signWith 7 rfl) (kg_T_signWith_in _ (List.mem_of_getElem? (i := 12) rfl)) <|
  sd_iload_n (pc := 14) (kt_tab_get kx_T_signWith 8 rfl) rfl <|
  sd_callV (pc := 15) km_S_pageOf (by decide) kv_S_pageOf (ci := 4) kt_hc4 (by decide) (kt_tab_get kx_T_signWith 9 rfl) (kg_T_signWith_in _ (List.mem_of_getElem? (i := 13) rfl)) <|
  sd_istore_n (pc := 18) (kt_tab_get kx_T_signWith 10 rfl) rfl (by decide) <|
  sd_aload_n (pc := 19) (kt_tab_get kx_T_signWith 11 rfl) rfl <|
  sd_get (pc := 20) (k := 0) (ci := 5) kt_hc5 kt_hin5 (by decide) (kt_tab_get kx_T_signWith 12 rfl) (kg_T_signWith_in _ (List.mem_of_getElem? (i := 12) rfl)) <|
  sd_iload_n (pc := 23) (kt_tab_get kx_T_signWith 13 rfl) rfl <|
  sd_iconst (pc := 24) (kt_tab_get kx_T_signWith 14 rfl) kc_i_1 <|
  sd_callV (pc := 25) km_S_read (by decide) kv_S_read (ci := 4) kt_hc4 (by decide) (kt_tab_get kx_T_signWith 15 rfl) (kg_T_signWith_in _ (List.mem_of_getElem? (i := 14) rfl)) <|
  sd_istore (pc := 28) (kt_tab_get kx_T_signWith 16 rfl) (by decide) <|
  sd_aload_n (pc := 30) (kt_tab_get kx_T_signWith 17 rfl) rfl <|
  sd_get (pc := 31) (k := 0) (ci := 5) kt_hc5 kt_hin5 (by decide) (kt_tab_get kx_T_signWith 18 rfl) (kg_T_signWith_in _ (List.mem_of_getElem? (i := 12) rfl)) <|
  sd_iload_n (pc := 34) (kt_tab_get kx_T_signWith 19 rfl) rfl <|
  sd_iconst (pc := 35) (kt_tab_get kx_T_signWith 20 rfl) kc_i_2 <|
  sd_callV (pc := 36) km_S_read (by decide) kv_S_read (ci := 4) kt_hc4 (by decide) (kt_tab_get kx_T_signWith 21 rfl) (kg_T_signWith_in _ (List.mem_of_getElem? (i := 14) rfl)) <|
  sd_istore (pc := 39) (kt_tab_get kx_T_signWith 22 rfl) (by decide) <|
  sd_aload_n (pc := 41) (kt_tab_get kx_T_signWith 23 rfl) rfl <|
  sd_get (pc := 42) (k := 0) (ci := 5) kt_hc5 kt_hin5 (by decide) (kt_tab_get kx_T_signWith 24 rfl) (kg_T_signWith_in _ (List.mem_of_getElem? (i := 12) rfl)) <|
  sd_iload_n (pc := 45) (kt_tab_get kx_T_signWith 25 rfl) rfl <|
  sd_iconst (pc := 46) (kt_tab_get kx_T_signWith 26 rfl) kc_i_3 <|
  sd_callV (pc := 47) km_S_read (by decide) kv_S_read (ci := 4) kt_hc4 (by decide) (kt_tab_get kx_T_signWith 27 rfl) (kg_T_signWith_in _ (List.mem_of_getElem? (i := 14) rfl)) <|
  sd_istore (pc := 50) (kt_tab_get kx_T_signWith 28 rfl) (by decide) <|
  sd_aload_n (pc := 52) (kt_tab_get kx_T_signWith 29 rfl) rfl <|
  sd_get (pc := 53) (k := 0) (ci := 5) kt_hc5 kt_hin5 (by decide) (kt_tab_get kx_T_signWith 30 rfl) (kg_T_signWith_in _ (List.mem_of_getElem? (i := 12) rfl)) <|
  sd_iload_n (pc := 56) (kt_tab_get kx_T_signWith 31 rfl) rfl <|
  sd_iconst (pc := 57) (kt_tab_get kx_T_signWith 32 rfl) kc_i_4 <|
  sd_callV (pc := 58) km_S_read (by decide) kv_S_read (ci := 4) kt_hc4 (by decide) (kt_tab_get kx_T_signWith 33 rfl) (kg_T_signWith_in _ (List.mem_of_getElem? (i := 14) rfl)) <|
  sd_iconst (pc := 61) (kt_tab_get kx_T_signWith 34 rfl) kc_i_1 <|
  sd_iadd (pc := 62) (kt_tab_get kx_T_signWith 35 rfl) <|
  sd_istore (pc := 63) (kt_tab_get kx_T_signWith 36 rfl) (by decide) <|
  sd_aload_n (pc := 65) (kt_tab_get kx_T_signWith 37 rfl) rfl <|
  sd_get (pc := 66) (k := 0) (ci := 5) kt_hc5 kt_hin5 (by decide) (kt_tab_get kx_T_signWith 38 rfl) (kg_T_signWith_in _ (List.mem_of_getElem? (i := 12) rfl)) <|
  sd_iload_n (pc := 69) (kt_tab_get kx_T_signWith 39 rfl) rfl <|
  sd_iload (pc := 70) (kt_tab_get kx_T_signWith 40 rfl) <|
  sd_iload (pc := 72) (kt_tab_get kx_T_signWith 41 rfl) <|
  sd_iload (pc := 74) (kt_tab_get kx_T_signWith 42 rfl) <|
  sd_iload (pc := 76) (kt_tab_get kx_T_signWith 43 rfl) <|
  sd_callV (pc := 78) km_S_put (by decide) kv_S_put (ci := 4) kt_hc4 (by decide) (kt_tab_get kx_T_signWith 44 rfl) (kg_T_signWith_in _ (List.mem_of_getElem? (i := 15) rfl)) <|
  sd_if_ne (pc := 81) (tgt := 86) (kt_tab_get kx_T_signWith 45 rfl) rfl (sd_drop (k := 3) kz_T_signWith_86) (sd_drop (k := 7) (sd_drop (k := 6) (sd_drop (k := 5) (sd_drop (k := 4) (sd_drop (k := 3) (sd_drop (k := 2) (sd_drop (k := 1) (sd_drop (k := 0) kz_T_signWith_84))))))))
noncomputable def kf_T_signWith : kt_F := kt_run 8 kd_T_signWith_0
theorem km_T_signWith : kt_M l kt_shC ky_T_signWith kb_T_signWith 8 (some .int) 3 false kf_T_signWith := kt_method (by decide) rfl kz_T_signWith_0
noncomputable def kd_T_signNext_27 : kt_D := ki_push (.int 5) <| ki_iret
theorem kz_T_signNext_27 : kt_Snd l kt_shC kb_T_signNext 1 RX5 (some .int) 4 0 0 false false 27 kd_T_signNext_27 :=
  sd_iconst (pc := 27) (kt_tab_get kx_T_signNext 12 rfl) kc_i_5 <|
  sd_iret (pc := 28) rfl (by decide) (kt_tab_get kx_T_signNext 13 rfl)
noncomputable def kd_T_signNext_29 : kt_D := ki_aload 0 <| ki_aload 0 <| ki_get kt_shC 5 4 <| ki_aload 0 <| ki_get kt_shC 5 9 <| ki_iald kt_shC <| ki_push (.int 0) <| ki_callV kt_shC 5 2 kf_T_signWith <| ki_iret
theorem kz_T_signNext_29 : kt_Snd l kt_shC kb_T_signNext 1 RX5 (some .int) 4 0 0 false false 29 kd_T_signNext_29 :=
  sd_aload_n (pc := 29) (kt_tab_get kx_T_signNext 14 rfl) rfl <|
  sd_aload_n (pc := 30) (kt_tab_get kx_T_signNext 15 rfl) rfl <|
  sd_get (pc := 31) (k := 4) (ci := 5) kt_hc5 kt_hin5 (by decide) (kt_tab_get kx_T_signNext 16 rfl) (kg_T_signNext_in _ (List.mem_of_getElem? (i := 4) rfl)) <|
  sd_aload_n (pc := 34) (kt_tab_get kx_T_signNext 17 rfl) rfl <|
  sd_get (pc := 35) (k := 9) (ci := 5) kt_hc5 kt_hin5 (by decide) (kt_tab_get kx_T_signNext 18 rfl) (kg_T_signNext_in _ (List.mem_of_getElem? (i := 5) rfl)) <|
  sd_iald (pc := 38) (kt_tab_get kx_T_signNext 19 rfl) <|
  sd_iconst (pc := 39) (kt_tab_get kx_T_signNext 20 rfl) kc_i_0 <|
  sd_callV (pc := 40) km_T_signWith (by decide) kv_T_signWith (ci := 5) kt_hc5 (by decide) (kt_tab_get kx_T_signNext 21 rfl) (kg_T_signNext_in _ (List.mem_of_getElem? (i := 6) rfl)) <|
  sd_iret (pc := 43) rfl (by decide) (kt_tab_get kx_T_signNext 22 rfl)
noncomputable def kd_T_signNext_18 : kt_D := ki_aload 0 <| ki_get kt_shC 5 9 <| ki_push (.int 6) <| ki_icmp_lt kd_T_signNext_29 (ki_drop 0 kd_T_signNext_27)
theorem kz_T_signNext_18 : kt_Snd l kt_shC kb_T_signNext 1 RX5 (some .int) 4 0 0 false false 18 kd_T_signNext_18 :=
  sd_aload_n (pc := 18) (kt_tab_get kx_T_signNext 8 rfl) rfl <|
  sd_get (pc := 19) (k := 9) (ci := 5) kt_hc5 kt_hin5 (by decide) (kt_tab_get kx_T_signNext 9 rfl) (kg_T_signNext_in _ (List.mem_of_getElem? (i := 5) rfl)) <|
  sd_bipush (pc := 22) (kt_tab_get kx_T_signNext 10 rfl) kc_b_6 <|
  sd_icmp_lt (pc := 24) (tgt := 29) (kt_tab_get kx_T_signNext 11 rfl) rfl kz_T_signNext_29 (sd_drop (k := 0) kz_T_signNext_27)
noncomputable def kd_T_signNext_7 : kt_D := ki_aload 0 <| ki_get kt_shC 5 9 <| ki_aload 0 <| ki_get kt_shC 5 10 <| ki_icmp_ge (ki_drop 0 kd_T_signNext_27) kd_T_signNext_18
theorem kz_T_signNext_7 : kt_Snd l kt_shC kb_T_signNext 1 RX5 (some .int) 4 0 0 false false 7 kd_T_signNext_7 :=
  sd_aload_n (pc := 7) (kt_tab_get kx_T_signNext 3 rfl) rfl <|
  sd_get (pc := 8) (k := 9) (ci := 5) kt_hc5 kt_hin5 (by decide) (kt_tab_get kx_T_signNext 4 rfl) (kg_T_signNext_in _ (List.mem_of_getElem? (i := 5) rfl)) <|
  sd_aload_n (pc := 11) (kt_tab_get kx_T_signNext 5 rfl) rfl <|
  sd_get (pc := 12) (k := 10) (ci := 5) kt_hc5 kt_hin5 (by decide) (kt_tab_get kx_T_signNext 6 rfl) (kg_T_signNext_in _ (List.mem_of_getElem? (i := 7) rfl)) <|
  sd_icmp_ge (pc := 15) (tgt := 27) (kt_tab_get kx_T_signNext 7 rfl) rfl (sd_drop (k := 0) kz_T_signNext_27) kz_T_signNext_18
noncomputable def kd_T_signNext_0 : kt_D := ki_aload 0 <| ki_get kt_shC 5 9 <| ki_if_lt (ki_drop 0 kd_T_signNext_27) kd_T_signNext_7
theorem kz_T_signNext_0 : kt_Snd l kt_shC kb_T_signNext 1 RX5 (some .int) 4 0 0 false false 0 kd_T_signNext_0 :=
  sd_aload_n (pc := 0) (kt_tab_get kx_T_signNext 0 rfl) rfl <|
  sd_get (pc := 1) (k := 9) (ci := 5) kt_hc5 kt_hin5 (by decide) (kt_tab_get kx_T_signNext 1 rfl) (kg_T_signNext_in _ (List.mem_of_getElem? (i := 5) rfl)) <|
  sd_if_lt (pc := 4) (tgt := 27) (kt_tab_get kx_T_signNext 2 rfl) rfl (sd_drop (k := 0) kz_T_signNext_27) kz_T_signNext_7
noncomputable def kf_T_signNext : kt_F := kt_run 1 kd_T_signNext_0
theorem km_T_signNext : kt_M l kt_shC ky_T_signNext kb_T_signNext 1 (some .int) 4 false kf_T_signNext := kt_method (by decide) rfl kz_T_signNext_0
noncomputable def kd_T_isTicket_38 : kt_D := ki_zret
theorem kz_T_isTicket_38 : kt_Snd l kt_shC kb_T_isTicket 2 RX5 (some .boolean) 2 0 0 true true 38 kd_T_isTicket_38 :=
  sd_zret (pc := 38) rfl (by decide) (kt_tab_get kx_T_isTicket 18 rfl)
noncomputable def kd_T_isTicket_37 : kt_D := ki_push (.int 0) <| kd_T_isTicket_38
theorem kz_T_isTicket_37 : kt_Snd l kt_shC kb_T_isTicket 2 RX5 (some .boolean) 2 0 0 true true 37 kd_T_isTicket_37 :=
  sd_iconst (pc := 37) (kt_tab_get kx_T_isTicket 17 rfl) kc_i_0 <|
  kz_T_isTicket_38
noncomputable def kd_T_isTicket_33 : kt_D := ki_push (.int 1) <| kd_T_isTicket_38
theorem kz_T_isTicket_33 : kt_Snd l kt_shC kb_T_isTicket 2 RX5 (some .boolean) 2 0 0 true true 33 kd_T_isTicket_33 :=
  sd_iconst (pc := 33) (kt_tab_get kx_T_isTicket 15 rfl) kc_i_1 <|
  sd_goto (pc := 34) (tgt := 38) (kt_tab_get kx_T_isTicket 16 rfl) rfl kz_T_isTicket_38
noncomputable def kd_T_isTicket_18 : kt_D := ki_aload 0 <| ki_get kt_shC 5 2 <| ki_iload 1 <| ki_callV kt_shC 2 1 kf_R_numberOf <| ki_aload 0 <| ki_get kt_shC 5 8 <| ki_icmp_ne (ki_drop 1 (ki_drop 0 kd_T_isTicket_37)) (ki_drop 1 (ki_drop 0 kd_T_isTicket_33))
theorem kz_T_isTicket_18 : kt_Snd l kt_shC kb_T_isTicket 2 RX5 (some .boolean) 2 0 0 true true 18 kd_T_isTicket_18 :=
  sd_aload_n (pc := 18) (kt_tab_get kx_T_isTicket 8 rfl) rfl <|
  sd_get (pc := 19) (k := 2) (ci := 5) kt_hc5 kt_hin5 (by decide) (kt_tab_get kx_T_isTicket 9 rfl) (kg_T_isTicket_in _ (List.mem_of_getElem? (i := 4) rfl)) <|
  sd_iload_n (pc := 22) (kt_tab_get kx_T_isTicket 10 rfl) rfl <|
  sd_callV (pc := 23) km_R_numberOf (by decide) kv_R_numberOf (ci := 2) kt_hc2 (by decide) (kt_tab_get kx_T_isTicket 11 rfl) (kg_T_isTicket_in _ (List.mem_of_getElem? (i := 5) rfl)) <|
  sd_aload_n (pc := 26) (kt_tab_get kx_T_isTicket 12 rfl) rfl <|
  sd_get (pc := 27) (k := 8) (ci := 5) kt_hc5 kt_hin5 (by decide) (kt_tab_get kx_T_isTicket 13 rfl) (kg_T_isTicket_in _ (List.mem_of_getElem? (i := 6) rfl)) <|
  sd_icmp_ne (pc := 30) (tgt := 37) (kt_tab_get kx_T_isTicket 14 rfl) rfl (sd_drop (k := 1) (sd_drop (k := 0) kz_T_isTicket_37)) (sd_drop (k := 1) (sd_drop (k := 0) kz_T_isTicket_33))
noncomputable def kd_T_isTicket_7 : kt_D := ki_aload 0 <| ki_get kt_shC 5 2 <| ki_iload 1 <| ki_callV kt_shC 2 1 kf_R_has <| ki_if_eq (ki_drop 1 (ki_drop 0 kd_T_isTicket_37)) kd_T_isTicket_18
theorem kz_T_isTicket_7 : kt_Snd l kt_shC kb_T_isTicket 2 RX5 (some .boolean) 2 0 0 true true 7 kd_T_isTicket_7 :=
  sd_aload_n (pc := 7) (kt_tab_get kx_T_isTicket 3 rfl) rfl <|
  sd_get (pc := 8) (k := 2) (ci := 5) kt_hc5 kt_hin5 (by decide) (kt_tab_get kx_T_isTicket 4 rfl) (kg_T_isTicket_in _ (List.mem_of_getElem? (i := 4) rfl)) <|
  sd_iload_n (pc := 11) (kt_tab_get kx_T_isTicket 5 rfl) rfl <|
  sd_callV (pc := 12) km_R_has (by decide) kv_R_has (ci := 2) kt_hc2 (by decide) (kt_tab_get kx_T_isTicket 6 rfl) (kg_T_isTicket_in _ (List.mem_of_getElem? (i := 7) rfl)) <|
  sd_if_eq (pc := 15) (tgt := 37) (kt_tab_get kx_T_isTicket 7 rfl) rfl (sd_drop (k := 1) (sd_drop (k := 0) kz_T_isTicket_37)) kz_T_isTicket_18
noncomputable def kd_T_isTicket_0 : kt_D := ki_aload 0 <| ki_get kt_shC 5 8 <| ki_if_eq (ki_drop 1 (ki_drop 0 kd_T_isTicket_37)) kd_T_isTicket_7
theorem kz_T_isTicket_0 : kt_Snd l kt_shC kb_T_isTicket 2 RX5 (some .boolean) 2 0 0 true true 0 kd_T_isTicket_0 :=
  sd_aload_n (pc := 0) (kt_tab_get kx_T_isTicket 0 rfl) rfl <|
  sd_get (pc := 1) (k := 8) (ci := 5) kt_hc5 kt_hin5 (by decide) (kt_tab_get kx_T_isTicket 1 rfl) (kg_T_isTicket_in _ (List.mem_of_getElem? (i := 6) rfl)) <|
  sd_if_eq (pc := 4) (tgt := 37) (kt_tab_get kx_T_isTicket 2 rfl) rfl (sd_drop (k := 1) (sd_drop (k := 0) kz_T_isTicket_37)) kz_T_isTicket_7
noncomputable def kf_T_isTicket : kt_F := kt_run 2 kd_T_isTicket_0
theorem km_T_isTicket : kt_M l kt_shC ky_T_isTicket kb_T_isTicket 2 (some .boolean) 2 true kf_T_isTicket := kt_method (by decide) rfl kz_T_isTicket_0
noncomputable def kd_T_isCredential_35 : kt_D := ki_zret
theorem kz_T_isCredential_35 : kt_Snd l kt_shC kb_T_isCredential 4 RX5 (some .boolean) 2 0 0 true true 35 kd_T_isCredential_35 :=
  sd_zret (pc := 35) rfl (by decide) (kt_tab_get kx_T_isCredential 19 rfl)
noncomputable def kd_T_isCredential_34 : kt_D := ki_push (.int 0) <| kd_T_isCredential_35
theorem kz_T_isCredential_34 : kt_Snd l kt_shC kb_T_isCredential 4 RX5 (some .boolean) 2 0 0 true true 34 kd_T_isCredential_34 :=
  sd_iconst (pc := 34) (kt_tab_get kx_T_isCredential 18 rfl) kc_i_0 <|
  kz_T_isCredential_35
noncomputable def kd_T_isCredential_30 : kt_D := ki_push (.int 1) <| kd_T_isCredential_35
theorem kz_T_isCredential_30 : kt_Snd l kt_shC kb_T_isCredential 4 RX5 (some .boolean) 2 0 0 true true 30 kd_T_isCredential_30 :=
  sd_iconst (pc := 30) (kt_tab_get kx_T_isCredential 16 rfl) kc_i_1 <|
  sd_goto (pc := 31) (tgt := 35) (kt_tab_get kx_T_isCredential 17 rfl) rfl kz_T_isCredential_35
noncomputable def kd_T_isCredential_17 : kt_D := ki_aload 0 <| ki_get kt_shC 5 0 <| ki_iload 3 <| ki_push (.int 1) <| ki_callV kt_shC 4 2 kf_S_read <| ki_iload 2 <| ki_icmp_ne (ki_drop 3 (ki_drop 2 (ki_drop 0 kd_T_isCredential_34))) (ki_drop 3 (ki_drop 2 (ki_drop 0 kd_T_isCredential_30)))
theorem kz_T_isCredential_17 : kt_Snd l kt_shC kb_T_isCredential 4 RX5 (some .boolean) 2 0 0 true true 17 kd_T_isCredential_17 :=
  sd_aload_n (pc := 17) (kt_tab_get kx_T_isCredential 9 rfl) rfl <|
  sd_get (pc := 18) (k := 0) (ci := 5) kt_hc5 kt_hin5 (by decide) (kt_tab_get kx_T_isCredential 10 rfl) (kg_T_isCredential_in _ (List.mem_of_getElem? (i := 4) rfl)) <|
  sd_iload_n (pc := 21) (kt_tab_get kx_T_isCredential 11 rfl) rfl <|
  sd_iconst (pc := 22) (kt_tab_get kx_T_isCredential 12 rfl) kc_i_1 <|
  sd_callV (pc := 23) km_S_read (by decide) kv_S_read (ci := 4) kt_hc4 (by decide) (kt_tab_get kx_T_isCredential 13 rfl) (kg_T_isCredential_in _ (List.mem_of_getElem? (i := 5) rfl)) <|
  sd_iload_n (pc := 26) (kt_tab_get kx_T_isCredential 14 rfl) rfl <|
  sd_icmp_ne (pc := 27) (tgt := 34) (kt_tab_get kx_T_isCredential 15 rfl) rfl (sd_drop (k := 3) (sd_drop (k := 2) (sd_drop (k := 0) kz_T_isCredential_34))) (sd_drop (k := 3) (sd_drop (k := 2) (sd_drop (k := 0) kz_T_isCredential_30)))
noncomputable def kd_T_isCredential_13 : kt_D := ki_iload 3 <| ki_if_lt (ki_drop 3 (ki_drop 2 (ki_drop 0 kd_T_isCredential_34))) kd_T_isCredential_17
theorem kz_T_isCredential_13 : kt_Snd l kt_shC kb_T_isCredential 4 RX5 (some .boolean) 2 0 0 true true 13 kd_T_isCredential_13 :=
  sd_iload_n (pc := 13) (kt_tab_get kx_T_isCredential 7 rfl) rfl <|
  sd_if_lt (pc := 14) (tgt := 34) (kt_tab_get kx_T_isCredential 8 rfl) rfl (sd_drop (k := 3) (sd_drop (k := 2) (sd_drop (k := 0) kz_T_isCredential_34))) kz_T_isCredential_17
noncomputable def kd_T_isCredential_0 : kt_D := ki_aload 0 <| ki_get kt_shC 5 0 <| ki_iload 1 <| ki_callV kt_shC 4 1 kf_S_pageOf <| ki_istore 3 <| ki_iload 1 <| ki_if_eq (ki_drop 3 (ki_drop 2 (ki_drop 1 (ki_drop 0 kd_T_isCredential_34)))) (ki_drop 1 kd_T_isCredential_13)
theorem kz_T_isCredential_0 : kt_Snd l kt_shC kb_T_isCredential 4 RX5 (some .boolean) 2 0 0 true true 0 kd_T_isCredential_0 :=
  sd_aload_n (pc := 0) (kt_tab_get kx_T_isCredential 0 rfl) rfl <|
  sd_get (pc := 1) (k := 0) (ci := 5) kt_hc5 kt_hin5 (by decide) (kt_tab_get kx_T_isCredential 1 rfl) (kg_T_isCredential_in _ (List.mem_of_getElem? (i := 4) rfl)) <|
  sd_iload_n (pc := 4) (kt_tab_get kx_T_isCredential 2 rfl) rfl <|
  sd_callV (pc := 5) km_S_pageOf (by decide) kv_S_pageOf (ci := 4) kt_hc4 (by decide) (kt_tab_get kx_T_isCredential 3 rfl) (kg_T_isCredential_in _ (List.mem_of_getElem? (i := 6) rfl)) <|
  sd_istore_n (pc := 8) (kt_tab_get kx_T_isCredential 4 rfl) rfl (by decide) <|
  sd_iload_n (pc := 9) (kt_tab_get kx_T_isCredential 5 rfl) rfl <|
  sd_if_eq (pc := 10) (tgt := 34) (kt_tab_get kx_T_isCredential 6 rfl) rfl (sd_drop (k := 3) (sd_drop (k := 2) (sd_drop (k := 1) (sd_drop (k := 0) kz_T_isCredential_34)))) (sd_drop (k := 1) kz_T_isCredential_13)
noncomputable def kf_T_isCredential : kt_F := kt_run 4 kd_T_isCredential_0
theorem km_T_isCredential : kt_M l kt_shC ky_T_isCredential kb_T_isCredential 4 (some .boolean) 2 true kf_T_isCredential := kt_method (by decide) rfl kz_T_isCredential_0
noncomputable def kd_T_isExcluded_37 : kt_D := ki_push (.int 0) <| ki_zret
theorem kz_T_isExcluded_37 : kt_Snd l kt_shC kb_T_isExcluded 3 RX5 (some .boolean) 3 0 0 true true 37 kd_T_isExcluded_37 :=
  sd_iconst (pc := 37) (kt_tab_get kx_T_isExcluded 20 rfl) kc_i_0 <|
  sd_zret (pc := 38) rfl (by decide) (kt_tab_get kx_T_isExcluded 21 rfl)
noncomputable def kd_T_isExcluded_31 (kh_2 : kt_D) : kt_D := ki_iinc 2 1 <| kh_2
theorem kz_T_isExcluded_31 {kh_2 : kt_D} (zh_2 : kt_Snd l kt_shC kb_T_isExcluded 3 RX5 (some .boolean) 3 0 0 true true 2 kh_2) : kt_Snd l kt_shC kb_T_isExcluded 3 RX5 (some .boolean) 3 0 0 true true 31 (kd_T_isExcluded_31 kh_2) :=
  sd_iinc (pc := 31) (kt_tab_get kx_T_isExcluded 18 rfl) kc_i_1 (by decide) <|
  sd_goto (pc := 34) (tgt := 2) (kt_tab_get kx_T_isExcluded 19 rfl) rfl zh_2
noncomputable def kd_T_isExcluded_29 : kt_D := ki_push (.int 1) <| ki_zret
theorem kz_T_isExcluded_29 : kt_Snd l kt_shC kb_T_isExcluded 3 RX5 (some .boolean) 3 0 0 true true 29 kd_T_isExcluded_29 :=
  sd_iconst (pc := 29) (kt_tab_get kx_T_isExcluded 16 rfl) kc_i_1 <|
  sd_zret (pc := 30) rfl (by decide) (kt_tab_get kx_T_isExcluded 17 rfl)
noncomputable def kd_T_isExcluded_17 (kh_2 : kt_D) : kt_D := ki_aload 0 <| ki_get kt_shC 5 2 <| ki_push (.int 5) <| ki_iload 2 <| ki_callV kt_shC 2 2 kf_R_lists <| ki_if_eq (kd_T_isExcluded_31 kh_2) (ki_drop 2 (ki_drop 1 (ki_drop 0 kd_T_isExcluded_29)))
theorem kz_T_isExcluded_17 {kh_2 : kt_D} (zh_2 : kt_Snd l kt_shC kb_T_isExcluded 3 RX5 (some .boolean) 3 0 0 true true 2 kh_2) : kt_Snd l kt_shC kb_T_isExcluded 3 RX5 (some .boolean) 3 0 0 true true 17 (kd_T_isExcluded_17 kh_2) :=
  sd_aload_n (pc := 17) (kt_tab_get kx_T_isExcluded 10 rfl) rfl <|
  sd_get (pc := 18) (k := 2) (ci := 5) kt_hc5 kt_hin5 (by decide) (kt_tab_get kx_T_isExcluded 11 rfl) (kg_T_isExcluded_in _ (List.mem_of_getElem? (i := 4) rfl)) <|
  sd_iconst (pc := 21) (kt_tab_get kx_T_isExcluded 12 rfl) kc_i_5 <|
  sd_iload_n (pc := 22) (kt_tab_get kx_T_isExcluded 13 rfl) rfl <|
  sd_callV (pc := 23) km_R_lists (by decide) kv_R_lists (ci := 2) kt_hc2 (by decide) (kt_tab_get kx_T_isExcluded 14 rfl) (kg_T_isExcluded_in _ (List.mem_of_getElem? (i := 5) rfl)) <|
  sd_if_eq (pc := 26) (tgt := 31) (kt_tab_get kx_T_isExcluded 15 rfl) rfl (kz_T_isExcluded_31 zh_2) (sd_drop (k := 2) (sd_drop (k := 1) (sd_drop (k := 0) kz_T_isExcluded_29)))
noncomputable def kd_T_isExcluded_8 (kh_2 : kt_D) : kt_D := ki_aload 0 <| ki_iload 2 <| ki_iload 1 <| ki_callV kt_shC 5 2 kf_T_isCredential <| ki_if_eq (kd_T_isExcluded_31 kh_2) (kd_T_isExcluded_17 kh_2)
theorem kz_T_isExcluded_8 {kh_2 : kt_D} (zh_2 : kt_Snd l kt_shC kb_T_isExcluded 3 RX5 (some .boolean) 3 0 0 true true 2 kh_2) : kt_Snd l kt_shC kb_T_isExcluded 3 RX5 (some .boolean) 3 0 0 true true 8 (kd_T_isExcluded_8 kh_2) :=
  sd_aload_n (pc := 8) (kt_tab_get kx_T_isExcluded 5 rfl) rfl <|
  sd_iload_n (pc := 9) (kt_tab_get kx_T_isExcluded 6 rfl) rfl <|
  sd_iload_n (pc := 10) (kt_tab_get kx_T_isExcluded 7 rfl) rfl <|
  sd_callV (pc := 11) km_T_isCredential (by decide) kv_T_isCredential (ci := 5) kt_hc5 (by decide) (kt_tab_get kx_T_isExcluded 8 rfl) (kg_T_isExcluded_in _ (List.mem_of_getElem? (i := 6) rfl)) <|
  sd_if_eq (pc := 14) (tgt := 31) (kt_tab_get kx_T_isExcluded 9 rfl) rfl (kz_T_isExcluded_31 zh_2) (kz_T_isExcluded_17 zh_2)
noncomputable def kd_T_isExcluded_2b (kh_2 : kt_D) : kt_D := ki_iload 2 <| ki_push (.int 6) <| ki_icmp_gt (ki_drop 2 (ki_drop 1 (ki_drop 0 kd_T_isExcluded_37))) (kd_T_isExcluded_8 kh_2)
theorem kz_T_isExcluded_2b {kh_2 : kt_D} (zh_2 : kt_Snd l kt_shC kb_T_isExcluded 3 RX5 (some .boolean) 3 0 0 true true 2 kh_2) : kt_Snd l kt_shC kb_T_isExcluded 3 RX5 (some .boolean) 3 0 0 true true 2 (kd_T_isExcluded_2b kh_2) :=
  sd_iload_n (pc := 2) (kt_tab_get kx_T_isExcluded 2 rfl) rfl <|
  sd_bipush (pc := 3) (kt_tab_get kx_T_isExcluded 3 rfl) kc_b_6 <|
  sd_icmp_gt (pc := 5) (tgt := 37) (kt_tab_get kx_T_isExcluded 4 rfl) rfl (sd_drop (k := 2) (sd_drop (k := 1) (sd_drop (k := 0) kz_T_isExcluded_37))) (kz_T_isExcluded_8 zh_2)
noncomputable def kd_T_isExcluded_2 (n : Nat) : kt_D := Nat.rec (fun _ _ _ => none) (fun _ ih => kd_T_isExcluded_2b ih) n
theorem kz_T_isExcluded_2 (n : Nat) : kt_Snd l kt_shC kb_T_isExcluded 3 RX5 (some .boolean) 3 0 0 true true 2 (kd_T_isExcluded_2 n) := by
  induction n with
  | zero => exact sd_fail
  | succ n ih => exact kz_T_isExcluded_2b ih
noncomputable def kd_T_isExcluded_0 : kt_D := ki_push (.int 1) <| ki_istore 2 <| (kd_T_isExcluded_2 100)
theorem kz_T_isExcluded_0 : kt_Snd l kt_shC kb_T_isExcluded 3 RX5 (some .boolean) 3 0 0 true true 0 kd_T_isExcluded_0 :=
  sd_iconst (pc := 0) (kt_tab_get kx_T_isExcluded 0 rfl) kc_i_1 <|
  sd_istore_n (pc := 1) (kt_tab_get kx_T_isExcluded 1 rfl) rfl (by decide) <|
  (kz_T_isExcluded_2 100)
noncomputable def kf_T_isExcluded : kt_F := kt_run 3 kd_T_isExcluded_0
theorem km_T_isExcluded : kt_M l kt_shC ky_T_isExcluded kb_T_isExcluded 3 (some .boolean) 3 true kf_T_isExcluded := kt_method (by decide) rfl kz_T_isExcluded_0
noncomputable def kd_T_usePress_0 : kt_D := ki_aload 0 <| ki_get kt_shC 5 6 <| ki_istore 1 <| ki_aload 0 <| ki_push (.int 0) <| ki_put kt_shC 5 6 1 <| ki_iload 1 <| ki_zret
theorem kz_T_usePress_0 : kt_Snd l kt_shC kb_T_usePress 2 RX5 (some .boolean) 0 0 0 false false 0 kd_T_usePress_0 :=
  sd_aload_n (pc := 0) (kt_tab_get kx_T_usePress 0 rfl) rfl <|
  sd_get (pc := 1) (k := 6) (ci := 5) kt_hc5 kt_hin5 (by decide) (kt_tab_get kx_T_usePress 1 rfl) (kg_T_usePress_in _ (List.mem_of_getElem? (i := 4) rfl)) <|
  sd_istore_n (pc := 4) (kt_tab_get kx_T_usePress 2 rfl) rfl (by decide) <|
  sd_aload_n (pc := 5) (kt_tab_get kx_T_usePress 3 rfl) rfl <|
  sd_iconst (pc := 6) (kt_tab_get kx_T_usePress 4 rfl) kc_i_0 <|
  sd_put (pc := 7) (k := 6) (ci := 5) kt_hc5 kt_hin5 tyX5_ok nmX5 (by decide) rfl rfl (Or.inr ⟨rfl, rfl⟩) (kt_tab_get kx_T_usePress 5 rfl) (kg_T_usePress_in _ (List.mem_of_getElem? (i := 4) rfl)) <|
  sd_iload_n (pc := 10) (kt_tab_get kx_T_usePress 6 rfl) rfl <|
  sd_zret (pc := 11) rfl (by decide) (kt_tab_get kx_T_usePress 7 rfl)
noncomputable def kf_T_usePress : kt_F := kt_run 2 kd_T_usePress_0
theorem km_T_usePress : kt_M l kt_shC ky_T_usePress kb_T_usePress 2 (some .boolean) 0 false kf_T_usePress := kt_method (by decide) rfl kz_T_usePress_0
noncomputable def kd_T_nameFor_71 : kt_D := ki_iload 3 <| ki_iret
theorem kz_T_nameFor_71 : kt_Snd l kt_shC kb_T_nameFor 6 RX5 (some .int) 2 0 0 true true 71 kd_T_nameFor_71 :=
  sd_iload_n (pc := 71) (kt_tab_get kx_T_nameFor 34 rfl) rfl <|
  sd_iret (pc := 72) rfl (by decide) (kt_tab_get kx_T_nameFor 35 rfl)
noncomputable def kd_T_nameFor_65 (kh_7 : kt_D) : kt_D := ki_iinc 4 (-1) <| kh_7
theorem kz_T_nameFor_65 {kh_7 : kt_D} (zh_7 : kt_Snd l kt_shC kb_T_nameFor 6 RX5 (some .int) 2 0 0 true true 7 kh_7) : kt_Snd l kt_shC kb_T_nameFor 6 RX5 (some .int) 2 0 0 true true 65 (kd_T_nameFor_65 kh_7) :=
  sd_iinc (pc := 65) (kt_tab_get kx_T_nameFor 32 rfl) kc_i_m1 (by decide) <|
  sd_goto (pc := 68) (tgt := 7) (kt_tab_get kx_T_nameFor 33 rfl) rfl zh_7
noncomputable def kd_T_nameFor_62 : kt_D := ki_iload 4 <| ki_iret
theorem kz_T_nameFor_62 : kt_Snd l kt_shC kb_T_nameFor 6 RX5 (some .int) 2 0 0 true true 62 kd_T_nameFor_62 :=
  sd_iload (pc := 62) (kt_tab_get kx_T_nameFor 30 rfl) <|
  sd_iret (pc := 64) rfl (by decide) (kt_tab_get kx_T_nameFor 31 rfl)
noncomputable def kd_T_nameFor_48 (kh_7 : kt_D) : kt_D := ki_aload 0 <| ki_get kt_shC 5 0 <| ki_iload 5 <| ki_push (.int 2) <| ki_callV kt_shC 4 2 kf_S_read <| ki_iload 2 <| ki_icmp_ne (ki_drop 5 (kd_T_nameFor_65 kh_7)) (ki_drop 5 (ki_drop 3 (ki_drop 2 (ki_drop 1 (ki_drop 0 kd_T_nameFor_62)))))
theorem kz_T_nameFor_48 {kh_7 : kt_D} (zh_7 : kt_Snd l kt_shC kb_T_nameFor 6 RX5 (some .int) 2 0 0 true true 7 kh_7) : kt_Snd l kt_shC kb_T_nameFor 6 RX5 (some .int) 2 0 0 true true 48 (kd_T_nameFor_48 kh_7) :=
  sd_aload_n (pc := 48) (kt_tab_get kx_T_nameFor 23 rfl) rfl <|
  sd_get (pc := 49) (k := 0) (ci := 5) kt_hc5 kt_hin5 (by decide) (kt_tab_get kx_T_nameFor 24 rfl) (kg_T_nameFor_in _ (List.mem_of_getElem? (i := 4) rfl)) <|
  sd_iload (pc := 52) (kt_tab_get kx_T_nameFor 25 rfl) <|
  sd_iconst (pc := 54) (kt_tab_get kx_T_nameFor 26 rfl) kc_i_2 <|
  sd_callV (pc := 55) km_S_read (by decide) kv_S_read (ci := 4) kt_hc4 (by decide) (kt_tab_get kx_T_nameFor 27 rfl) (kg_T_nameFor_in _ (List.mem_of_getElem? (i := 5) rfl)) <|
  sd_iload_n (pc := 58) (kt_tab_get kx_T_nameFor 28 rfl) rfl <|
  sd_icmp_ne (pc := 59) (tgt := 65) (kt_tab_get kx_T_nameFor 29 rfl) rfl (sd_drop (k := 5) (kz_T_nameFor_65 zh_7)) (sd_drop (k := 5) (sd_drop (k := 3) (sd_drop (k := 2) (sd_drop (k := 1) (sd_drop (k := 0) kz_T_nameFor_62)))))
noncomputable def kd_T_nameFor_34 (kh_7 : kt_D) : kt_D := ki_aload 0 <| ki_get kt_shC 5 0 <| ki_iload 5 <| ki_push (.int 1) <| ki_callV kt_shC 4 2 kf_S_read <| ki_iload 1 <| ki_icmp_ne (ki_drop 5 (kd_T_nameFor_65 kh_7)) (kd_T_nameFor_48 kh_7)
theorem kz_T_nameFor_34 {kh_7 : kt_D} (zh_7 : kt_Snd l kt_shC kb_T_nameFor 6 RX5 (some .int) 2 0 0 true true 7 kh_7) : kt_Snd l kt_shC kb_T_nameFor 6 RX5 (some .int) 2 0 0 true true 34 (kd_T_nameFor_34 kh_7) :=
  sd_aload_n (pc := 34) (kt_tab_get kx_T_nameFor 16 rfl) rfl <|
  sd_get (pc := 35) (k := 0) (ci := 5) kt_hc5 kt_hin5 (by decide) (kt_tab_get kx_T_nameFor 17 rfl) (kg_T_nameFor_in _ (List.mem_of_getElem? (i := 4) rfl)) <|
  sd_iload (pc := 38) (kt_tab_get kx_T_nameFor 18 rfl) <|
  sd_iconst (pc := 40) (kt_tab_get kx_T_nameFor 19 rfl) kc_i_1 <|
  sd_callV (pc := 41) km_S_read (by decide) kv_S_read (ci := 4) kt_hc4 (by decide) (kt_tab_get kx_T_nameFor 20 rfl) (kg_T_nameFor_in _ (List.mem_of_getElem? (i := 5) rfl)) <|
  sd_iload_n (pc := 44) (kt_tab_get kx_T_nameFor 21 rfl) rfl <|
  sd_icmp_ne (pc := 45) (tgt := 65) (kt_tab_get kx_T_nameFor 22 rfl) rfl (sd_drop (k := 5) (kz_T_nameFor_65 zh_7)) (kz_T_nameFor_48 zh_7)
noncomputable def kd_T_nameFor_28 (kh_7 : kt_D) : kt_D := ki_iload 4 <| ki_istore 3 <| (kd_T_nameFor_65 kh_7)
theorem kz_T_nameFor_28 {kh_7 : kt_D} (zh_7 : kt_Snd l kt_shC kb_T_nameFor 6 RX5 (some .int) 2 0 0 true true 7 kh_7) : kt_Snd l kt_shC kb_T_nameFor 6 RX5 (some .int) 2 0 0 true true 28 (kd_T_nameFor_28 kh_7) :=
  sd_iload (pc := 28) (kt_tab_get kx_T_nameFor 13 rfl) <|
  sd_istore_n (pc := 30) (kt_tab_get kx_T_nameFor 14 rfl) rfl (by decide) <|
  sd_goto (pc := 31) (tgt := 65) (kt_tab_get kx_T_nameFor 15 rfl) rfl (kz_T_nameFor_65 zh_7)
noncomputable def kd_T_nameFor_12 (kh_7 : kt_D) : kt_D := ki_aload 0 <| ki_get kt_shC 5 0 <| ki_iload 4 <| ki_callV kt_shC 4 1 kf_S_pageOf <| ki_istore 5 <| ki_iload 5 <| ki_if_ge (kd_T_nameFor_34 kh_7) (ki_drop 5 (ki_drop 3 (kd_T_nameFor_28 kh_7)))
theorem kz_T_nameFor_12 {kh_7 : kt_D} (zh_7 : kt_Snd l kt_shC kb_T_nameFor 6 RX5 (some .int) 2 0 0 true true 7 kh_7) : kt_Snd l kt_shC kb_T_nameFor 6 RX5 (some .int) 2 0 0 true true 12 (kd_T_nameFor_12 kh_7) :=
  sd_aload_n (pc := 12) (kt_tab_get kx_T_nameFor 6 rfl) rfl <|
  sd_get (pc := 13) (k := 0) (ci := 5) kt_hc5 kt_hin5 (by decide) (kt_tab_get kx_T_nameFor 7 rfl) (kg_T_nameFor_in _ (List.mem_of_getElem? (i := 4) rfl)) <|
  sd_iload (pc := 16) (kt_tab_get kx_T_nameFor 8 rfl) <|
  sd_callV (pc := 18) km_S_pageOf (by decide) kv_S_pageOf (ci := 4) kt_hc4 (by decide) (kt_tab_get kx_T_nameFor 9 rfl) (kg_T_nameFor_in _ (List.mem_of_getElem? (i := 6) rfl)) <|
  sd_istore (pc := 21) (kt_tab_get kx_T_nameFor 10 rfl) (by decide) <|
  sd_iload (pc := 23) (kt_tab_get kx_T_nameFor 11 rfl) <|
  sd_if_ge (pc := 25) (tgt := 34) (kt_tab_get kx_T_nameFor 12 rfl) rfl (kz_T_nameFor_34 zh_7) (sd_drop (k := 5) (sd_drop (k := 3) (kz_T_nameFor_28 zh_7)))
noncomputable def kd_T_nameFor_7b (kh_7 : kt_D) : kt_D := ki_iload 4 <| ki_if_le (ki_drop 4 (ki_drop 2 (ki_drop 1 (ki_drop 0 kd_T_nameFor_71)))) (kd_T_nameFor_12 kh_7)
theorem kz_T_nameFor_7b {kh_7 : kt_D} (zh_7 : kt_Snd l kt_shC kb_T_nameFor 6 RX5 (some .int) 2 0 0 true true 7 kh_7) : kt_Snd l kt_shC kb_T_nameFor 6 RX5 (some .int) 2 0 0 true true 7 (kd_T_nameFor_7b kh_7) :=
  sd_iload (pc := 7) (kt_tab_get kx_T_nameFor 4 rfl) <|
  sd_if_le (pc := 9) (tgt := 71) (kt_tab_get kx_T_nameFor 5 rfl) rfl (sd_drop (k := 4) (sd_drop (k := 2) (sd_drop (k := 1) (sd_drop (k := 0) kz_T_nameFor_71)))) (kz_T_nameFor_12 zh_7)
noncomputable def kd_T_nameFor_7 (n : Nat) : kt_D := Nat.rec (fun _ _ _ => none) (fun _ ih => kd_T_nameFor_7b ih) n
theorem kz_T_nameFor_7 (n : Nat) : kt_Snd l kt_shC kb_T_nameFor 6 RX5 (some .int) 2 0 0 true true 7 (kd_T_nameFor_7 n) := by
  induction n with
  | zero => exact sd_fail
  | succ n ih => exact kz_T_nameFor_7b ih
noncomputable def kd_T_nameFor_0 : kt_D := ki_push (.int 7) <| ki_istore 3 <| ki_push (.int 6) <| ki_istore 4 <| (kd_T_nameFor_7 100)
theorem kz_T_nameFor_0 : kt_Snd l kt_shC kb_T_nameFor 6 RX5 (some .int) 2 0 0 true true 0 kd_T_nameFor_0 :=
  sd_bipush (pc := 0) (kt_tab_get kx_T_nameFor 0 rfl) kc_b_7 <|
  sd_istore_n (pc := 2) (kt_tab_get kx_T_nameFor 1 rfl) rfl (by decide) <|
  sd_bipush (pc := 3) (kt_tab_get kx_T_nameFor 2 rfl) kc_b_6 <|
  sd_istore (pc := 5) (kt_tab_get kx_T_nameFor 3 rfl) (by decide) <|
  (kz_T_nameFor_7 100)
noncomputable def kf_T_nameFor : kt_F := kt_run 6 kd_T_nameFor_0
theorem km_T_nameFor : kt_M l kt_shC ky_T_nameFor kb_T_nameFor 6 (some .int) 2 true kf_T_nameFor := kt_method (by decide) rfl kz_T_nameFor_0
noncomputable def kd_T_makeCredential_123 : kt_D := ki_push (.int 6) <| ki_iret
theorem kz_T_makeCredential_123 : kt_Snd l kt_shC kb_T_makeCredential 7 RX5 (some .int) 4 0 0 false false 123 kd_T_makeCredential_123 :=
  sd_bipush (pc := 123) (kt_tab_get kx_T_makeCredential 64 rfl) kc_b_6 <|
  sd_iret (pc := 125) rfl (by decide) (kt_tab_get kx_T_makeCredential 65 rfl)
noncomputable def kd_T_makeCredential_162 : kt_D := ki_aload 0 <| ki_get kt_shC 5 1 <| ki_push (.int 1) <| ki_iload 6 <| ki_iload 3 <| ki_aload 0 <| ki_get kt_shC 5 2 <| ki_push (.int 1) <| ki_callV kt_shC 2 1 kf_R_numberOf <| ki_push (.int 0) <| ki_iload 2 <| ki_callV kt_shC 3 6 kf_G_make <| ki_aload 0 <| ki_push (.int 3) <| ki_callV kt_shC 5 1 kf_T_beginAnswer <| ki_aload 0 <| ki_get kt_shC 5 3 <| ki_push (.int 1) <| ki_iload 5 <| ki_callV kt_shC 0 2 kf_B_addPair <| ki_aload 0 <| ki_get kt_shC 5 3 <| ki_push (.int 2) <| ki_iload 6 <| ki_callV kt_shC 0 2 kf_B_addPair <| ki_aload 0 <| ki_get kt_shC 5 3 <| ki_push (.int 3) <| ki_aload 0 <| ki_get kt_shC 5 1 <| ki_get kt_shC 3 1 <| ki_callV kt_shC 0 2 kf_B_addPair <| ki_push (.int 0) <| ki_iret
theorem kz_T_makeCredential_162 : kt_Snd l kt_shC kb_T_makeCredential 7 RX5 (some .int) 4 0 0 false false 162 kd_T_makeCredential_162 :=
  sd_aload_n (pc := 162) (kt_tab_get kx_T_makeCredential 86 rfl) rfl <|
  sd_get (pc := 163) (k := 1) (ci := 5) kt_hc5 kt_hin5 (by decide) (kt_tab_get kx_T_makeCredential 87 rfl) (kg_T_makeCredential_in _ (List.mem_of_getElem? (i := 4) rfl)) <|
  sd_iconst (pc := 166) (kt_tab_get kx_T_makeCredential 88 rfl) kc_i_1 <|
  sd_iload (pc := 167) (kt_tab_get kx_T_makeCredential 89 rfl) <|
  sd_iload_n (pc := 169) (kt_tab_get kx_T_makeCredential 90 rfl) rfl <|
  sd_aload_n (pc := 170) (kt_tab_get kx_T_makeCredential 91 rfl) rfl <|
  sd_get (pc := 171) (k := 2) (ci := 5) kt_hc5 kt_hin5 (by decide) (kt_tab_get kx_T_makeCredential 92 rfl) (kg_T_makeCredential_in _ (List.mem_of_getElem? (i := 5) rfl)) <|
  sd_iconst (pc := 174) (kt_tab_get kx_T_makeCredential 93 rfl) kc_i_1 <|
  sd_callV (pc := 175) km_R_numberOf (by decide) kv_R_numberOf (ci := 2) kt_hc2 (by decide) (kt_tab_get kx_T_makeCredential 94 rfl) (kg_T_makeCredential_in _ (List.mem_of_getElem? (i := 6) rfl)) <|
  sd_iconst (pc := 178) (kt_tab_get kx_T_makeCredential 95 rfl) kc_i_0 <|
  sd_iload_n (pc := 179) (kt_tab_get kx_T_makeCredential 96 rfl) rfl <|
  sd_callV (pc := 180) km_G_make (by decide) kv_G_make (ci := 3) kt_hc3 (by decide) (kt_tab_get kx_T_makeCredential 97 rfl) (kg_T_makeCredential_in _ (List.mem_of_getElem? (i := 7) rfl)) <|
  sd_aload_n (pc := 183) (kt_tab_get kx_T_makeCredential 98 rfl) rfl <|
  sd_iconst (pc := 184) (kt_tab_get kx_T_makeCredential 99 rfl) kc_i_3 <|
  sd_callV (pc := 185) km_T_beginAnswer (by decide) kv_T_beginAnswer (ci := 5) kt_hc5 (by decide) (kt_tab_get kx_T_makeCredential 100 rfl) (kg_T_makeCredential_in _ (List.mem_of_getElem? (i := 8) rfl)) <|
  sd_aload_n (pc := 188) (kt_tab_get kx_T_makeCredential 101 rfl) rfl <|
  sd_get (pc := 189) (k := 3) (ci := 5) kt_hc5 kt_hin5 (by decide) (kt_tab_get kx_T_makeCredential 102 rfl) (kg_T_makeCredential_in _ (List.mem_of_getElem? (i := 9) rfl)) <|
  sd_iconst (pc := 192) (kt_tab_get kx_T_makeCredential 103 rfl) kc_i_1 <|
  sd_iload (pc := 193) (kt_tab_get kx_T_makeCredential 104 rfl) <|
  sd_callV (pc := 195) km_B_addPair (by decide) kv_B_addPair (ci := 0) kt_hc0 (by decide) (kt_tab_get kx_T_makeCredential 105 rfl) (kg_T_makeCredential_in _ (List.mem_of_getElem? (i := 10) rfl)) <|
  sd_aload_n (pc := 198) (kt_tab_get kx_T_makeCredential 106 rfl) rfl <|
  sd_get (pc := 199) (k := 3) (ci := 5) kt_hc5 kt_hin5 (by decide) (kt_tab_get kx_T_makeCredential 107 rfl) (kg_T_makeCredential_in _ (List.mem_of_getElem? (i := 9) rfl)) <|
  sd_iconst (pc := 202) (kt_tab_get kx_T_makeCredential 108 rfl) kc_i_2 <|
  sd_iload (pc := 203) (kt_tab_get kx_T_makeCredential 109 rfl) <|
  sd_callV (pc := 205) km_B_addPair (by decide) kv_B_addPair (ci := 0) kt_hc0 (by decide) (kt_tab_get kx_T_makeCredential 110 rfl) (kg_T_makeCredential_in _ (List.mem_of_getElem? (i := 10) rfl)) <|
  sd_aload_n (pc := 208) (kt_tab_get kx_T_makeCredential 111 rfl) rfl <|
  sd_get (pc := 209) (k := 3) (ci := 5) kt_hc5 kt_hin5 (by decide) (kt_tab_get kx_T_makeCredential 112 rfl) (kg_T_makeCredential_in _ (List.mem_of_getElem? (i := 9) rfl)) <|
  sd_iconst (pc := 212) (kt_tab_get kx_T_makeCredential 113 rfl) kc_i_3 <|
  sd_aload_n (pc := 213) (kt_tab_get kx_T_makeCredential 114 rfl) rfl <|
  sd_get (pc := 214) (k := 1) (ci := 5) kt_hc5 kt_hin5 (by decide) (kt_tab_get kx_T_makeCredential 115 rfl) (kg_T_makeCredential_in _ (List.mem_of_getElem? (i := 4) rfl)) <|
  sd_getN (pc := 217) (k := 1) (ci := 3) kt_hc3 kt_hin3 (by decide) (kt_tab_get kx_T_makeCredential 116 rfl) (List.mem_of_getElem? (i := 4) rfl) <|
  sd_callV (pc := 220) km_B_addPair (by decide) kv_B_addPair (ci := 0) kt_hc0 (by decide) (kt_tab_get kx_T_makeCredential 117 rfl) (kg_T_makeCredential_in _ (List.mem_of_getElem? (i := 10) rfl)) <|
  sd_iconst (pc := 223) (kt_tab_get kx_T_makeCredential 118 rfl) kc_i_0 <|
  sd_iret (pc := 224) rfl (by decide) (kt_tab_get kx_T_makeCredential 119 rfl)
noncomputable def kd_T_makeCredential_160 : kt_D := ki_push (.int (-1)) <| ki_iret
theorem kz_T_makeCredential_160 : kt_Snd l kt_shC kb_T_makeCredential 7 RX5 (some .int) 4 0 0 false false 160 kd_T_makeCredential_160 :=
  sd_iconst (pc := 160) (kt_tab_get kx_T_makeCredential 84 rfl) kc_i_m1 <|
  sd_iret (pc := 161) rfl (by decide) (kt_tab_get kx_T_makeCredential 85 rfl)
noncomputable def kd_T_makeCredential_126 : kt_D := ki_aload 0 <| ki_dup <| ki_get kt_shC 5 13 <| ki_push (.int 1) <| ki_iadd <| ki_put kt_shC 5 13 0 <| ki_aload 0 <| ki_get kt_shC 5 13 <| ki_istore 6 <| ki_aload 0 <| ki_get kt_shC 5 0 <| ki_iload 5 <| ki_iload 3 <| ki_iload 4 <| ki_iload 6 <| ki_push (.int 0) <| ki_callV kt_shC 4 5 kf_S_put <| ki_if_ne (ki_drop 4 kd_T_makeCredential_162) (ki_drop 6 (ki_drop 5 (ki_drop 4 (ki_drop 3 (ki_drop 2 (ki_drop 0 kd_T_makeCredential_160))))))
theorem kz_T_makeCredential_126 : kt_Snd l kt_shC kb_T_makeCredential 7 RX5 (some .int) 4 0 0 false false 126 kd_T_makeCredential_126 :=
  sd_aload_n (pc := 126) (kt_tab_get kx_T_makeCredential 66 rfl) rfl <|
  sd_dup (pc := 127) (kt_tab_get kx_T_makeCredential 67 rfl) <|
  sd_get (pc := 128) (k := 13) (ci := 5) kt_hc5 kt_hin5 (by decide) (kt_tab_get kx_T_makeCredential 68 rfl) (kg_T_makeCredential_in _ (List.mem_of_getElem? (i := 11) rfl)) <|
  sd_iconst (pc := 131) (kt_tab_get kx_T_makeCredential 69 rfl) kc_i_1 <|
  sd_iadd (pc := 132) (kt_tab_get kx_T_makeCredential 70 rfl) <|
  sd_put (pc := 133) (k := 13) (ci := 5) kt_hc5 kt_hin5 tyX5_ok nmX5 (by decide) rfl rfl (Or.inl ⟨rfl, rfl⟩) (kt_tab_get kx_T_makeCredential 71 rfl) (kg_T_makeCredential_in _ (List.mem_of_getElem? (i := 11) rfl)) <|
  sd_aload_n (pc := 136) (kt_tab_get kx_T_makeCredential 72 rfl) rfl <|
  sd_get (pc := 137) (k := 13) (ci := 5) kt_hc5 kt_hin5 (by decide) (kt_tab_get kx_T_makeCredential 73 rfl) (kg_T_makeCredential_in _ (List.mem_of_getElem? (i := 11) rfl)) <|
  sd_istore (pc := 140) (kt_tab_get kx_T_makeCredential 74 rfl) (by decide) <|
  sd_aload_n (pc := 142) (kt_tab_get kx_T_makeCredential 75 rfl) rfl <|
  sd_get (pc := 143) (k := 0) (ci := 5) kt_hc5 kt_hin5 (by decide) (kt_tab_get kx_T_makeCredential 76 rfl) (kg_T_makeCredential_in _ (List.mem_of_getElem? (i := 12) rfl)) <|
  sd_iload (pc := 146) (kt_tab_get kx_T_makeCredential 77 rfl) <|
  sd_iload_n (pc := 148) (kt_tab_get kx_T_makeCredential 78 rfl) rfl <|
  sd_iload (pc := 149) (kt_tab_get kx_T_makeCredential 79 rfl) <|
  sd_iload (pc := 151) (kt_tab_get kx_T_makeCredential 80 rfl) <|
  sd_iconst (pc := 153) (kt_tab_get kx_T_makeCredential 81 rfl) kc_i_0 <|
  sd_callV (pc := 154) km_S_put (by decide) kv_S_put (ci := 4) kt_hc4 (by decide) (kt_tab_get kx_T_makeCredential 82 rfl) (kg_T_makeCredential_in _ (List.mem_of_getElem? (i := 13) rfl)) <|
  sd_if_ne (pc := 157) (tgt := 162) (kt_tab_get kx_T_makeCredential 83 rfl) rfl (sd_drop (k := 4) kz_T_makeCredential_162) (sd_drop (k := 6) (sd_drop (k := 5) (sd_drop (k := 4) (sd_drop (k := 3) (sd_drop (k := 2) (sd_drop (k := 0) kz_T_makeCredential_160))))))
noncomputable def kd_T_makeCredential_111 : kt_D := ki_aload 0 <| ki_get kt_shC 5 0 <| ki_iload 5 <| ki_callV kt_shC 4 1 kf_S_hasRoomFor <| ki_if_ne kd_T_makeCredential_126 (ki_drop 5 (ki_drop 4 (ki_drop 3 (ki_drop 2 (ki_drop 0 kd_T_makeCredential_123)))))
theorem kz_T_makeCredential_111 : kt_Snd l kt_shC kb_T_makeCredential 7 RX5 (some .int) 4 0 0 false false 111 kd_T_makeCredential_111 :=
  sd_aload_n (pc := 111) (kt_tab_get kx_T_makeCredential 59 rfl) rfl <|
  sd_get (pc := 112) (k := 0) (ci := 5) kt_hc5 kt_hin5 (by decide) (kt_tab_get kx_T_makeCredential 60 rfl) (kg_T_makeCredential_in _ (List.mem_of_getElem? (i := 12) rfl)) <|
  sd_iload (pc := 115) (kt_tab_get kx_T_makeCredential 61 rfl) <|
  sd_callV (pc := 117) km_S_hasRoomFor (by decide) kv_S_hasRoomFor (ci := 4) kt_hc4 (by decide) (kt_tab_get kx_T_makeCredential 62 rfl) (kg_T_makeCredential_in _ (List.mem_of_getElem? (i := 14) rfl)) <|
  sd_if_ne (pc := 120) (tgt := 126) (kt_tab_get kx_T_makeCredential 63 rfl) rfl kz_T_makeCredential_126 (sd_drop (k := 5) (sd_drop (k := 4) (sd_drop (k := 3) (sd_drop (k := 2) (sd_drop (k := 0) kz_T_makeCredential_123)))))
noncomputable def kd_T_makeCredential_85 : kt_D := ki_aload 0 <| ki_get kt_shC 5 2 <| ki_push (.int 3) <| ki_callV kt_shC 2 1 kf_R_numberOf <| ki_istore 4 <| ki_aload 0 <| ki_iload 3 <| ki_iload 4 <| ki_callV kt_shC 5 2 kf_T_nameFor <| ki_istore 5 <| ki_iload 5 <| ki_push (.int 6) <| ki_icmp_gt (ki_drop 5 (ki_drop 4 (ki_drop 3 (ki_drop 2 (ki_drop 0 kd_T_makeCredential_123))))) kd_T_makeCredential_111
theorem kz_T_makeCredential_85 : kt_Snd l kt_shC kb_T_makeCredential 7 RX5 (some .int) 4 0 0 false false 85 kd_T_makeCredential_85 :=
  sd_aload_n (pc := 85) (kt_tab_get kx_T_makeCredential 46 rfl) rfl <|
  sd_get (pc := 86) (k := 2) (ci := 5) kt_hc5 kt_hin5 (by decide) (kt_tab_get kx_T_makeCredential 47 rfl) (kg_T_makeCredential_in _ (List.mem_of_getElem? (i := 5) rfl)) <|
  sd_iconst (pc := 89) (kt_tab_get kx_T_makeCredential 48 rfl) kc_i_3 <|
  sd_callV (pc := 90) km_R_numberOf (by decide) kv_R_numberOf (ci := 2) kt_hc2 (by decide) (kt_tab_get kx_T_makeCredential 49 rfl) (kg_T_makeCredential_in _ (List.mem_of_getElem? (i := 6) rfl)) <|
  sd_istore (pc := 93) (kt_tab_get kx_T_makeCredential 50 rfl) (by decide) <|
  sd_aload_n (pc := 95) (kt_tab_get kx_T_makeCredential 51 rfl) rfl <|
  sd_iload_n (pc := 96) (kt_tab_get kx_T_makeCredential 52 rfl) rfl <|
  sd_iload (pc := 97) (kt_tab_get kx_T_makeCredential 53 rfl) <|
  sd_callV (pc := 99) km_T_nameFor (by decide) kv_T_nameFor (ci := 5) kt_hc5 (by decide) (kt_tab_get kx_T_makeCredential 54 rfl) (kg_T_makeCredential_in _ (List.mem_of_getElem? (i := 15) rfl)) <|
  sd_istore (pc := 102) (kt_tab_get kx_T_makeCredential 55 rfl) (by decide) <|
  sd_iload (pc := 104) (kt_tab_get kx_T_makeCredential 56 rfl) <|
  sd_bipush (pc := 106) (kt_tab_get kx_T_makeCredential 57 rfl) kc_b_6 <|
  sd_icmp_gt (pc := 108) (tgt := 123) (kt_tab_get kx_T_makeCredential 58 rfl) rfl (sd_drop (k := 5) (sd_drop (k := 4) (sd_drop (k := 3) (sd_drop (k := 2) (sd_drop (k := 0) kz_T_makeCredential_123))))) kz_T_makeCredential_111
noncomputable def kd_T_makeCredential_82 : kt_D := ki_push (.int 7) <| ki_iret
theorem kz_T_makeCredential_82 : kt_Snd l kt_shC kb_T_makeCredential 7 RX5 (some .int) 4 0 0 false false 82 kd_T_makeCredential_82 :=
  sd_bipush (pc := 82) (kt_tab_get kx_T_makeCredential 44 rfl) kc_b_7 <|
  sd_iret (pc := 84) rfl (by decide) (kt_tab_get kx_T_makeCredential 45 rfl)
noncomputable def kd_T_makeCredential_75 : kt_D := ki_aload 0 <| ki_callV kt_shC 5 0 kf_T_usePress <| ki_if_ne kd_T_makeCredential_85 (ki_drop 3 (ki_drop 2 (ki_drop 0 kd_T_makeCredential_82)))
theorem kz_T_makeCredential_75 : kt_Snd l kt_shC kb_T_makeCredential 7 RX5 (some .int) 4 0 0 false false 75 kd_T_makeCredential_75 :=
  sd_aload_n (pc := 75) (kt_tab_get kx_T_makeCredential 41 rfl) rfl <|
  sd_callV (pc := 76) km_T_usePress (by decide) kv_T_usePress (ci := 5) kt_hc5 (by decide) (kt_tab_get kx_T_makeCredential 42 rfl) (kg_T_makeCredential_in _ (List.mem_of_getElem? (i := 16) rfl)) <|
  sd_if_ne (pc := 79) (tgt := 85) (kt_tab_get kx_T_makeCredential 43 rfl) rfl kz_T_makeCredential_85 (sd_drop (k := 3) (sd_drop (k := 2) (sd_drop (k := 0) kz_T_makeCredential_82)))
noncomputable def kd_T_makeCredential_72 : kt_D := ki_push (.int 8) <| ki_iret
theorem kz_T_makeCredential_72 : kt_Snd l kt_shC kb_T_makeCredential 7 RX5 (some .int) 4 0 0 false false 72 kd_T_makeCredential_72 :=
  sd_bipush (pc := 72) (kt_tab_get kx_T_makeCredential 39 rfl) kc_b_8 <|
  sd_iret (pc := 74) rfl (by decide) (kt_tab_get kx_T_makeCredential 40 rfl)
noncomputable def kd_T_makeCredential_55 : kt_D := ki_aload 0 <| ki_get kt_shC 5 2 <| ki_push (.int 2) <| ki_callV kt_shC 2 1 kf_R_textNumber <| ki_istore 3 <| ki_aload 0 <| ki_iload 3 <| ki_callV kt_shC 5 1 kf_T_isExcluded <| ki_if_eq kd_T_makeCredential_75 (ki_drop 3 (ki_drop 2 (ki_drop 0 kd_T_makeCredential_72)))
theorem kz_T_makeCredential_55 : kt_Snd l kt_shC kb_T_makeCredential 7 RX5 (some .int) 4 0 0 false false 55 kd_T_makeCredential_55 :=
  sd_aload_n (pc := 55) (kt_tab_get kx_T_makeCredential 30 rfl) rfl <|
  sd_get (pc := 56) (k := 2) (ci := 5) kt_hc5 kt_hin5 (by decide) (kt_tab_get kx_T_makeCredential 31 rfl) (kg_T_makeCredential_in _ (List.mem_of_getElem? (i := 5) rfl)) <|
  sd_iconst (pc := 59) (kt_tab_get kx_T_makeCredential 32 rfl) kc_i_2 <|
  sd_callV (pc := 60) km_R_textNumber (by decide) kv_R_textNumber (ci := 2) kt_hc2 (by decide) (kt_tab_get kx_T_makeCredential 33 rfl) (kg_T_makeCredential_in _ (List.mem_of_getElem? (i := 17) rfl)) <|
  sd_istore_n (pc := 63) (kt_tab_get kx_T_makeCredential 34 rfl) rfl (by decide) <|
  sd_aload_n (pc := 64) (kt_tab_get kx_T_makeCredential 35 rfl) rfl <|
  sd_iload_n (pc := 65) (kt_tab_get kx_T_makeCredential 36 rfl) rfl <|
  sd_callV (pc := 66) km_T_isExcluded (by decide) kv_T_isExcluded (ci := 5) kt_hc5 (by decide) (kt_tab_get kx_T_makeCredential 37 rfl) (kg_T_makeCredential_in _ (List.mem_of_getElem? (i := 18) rfl)) <|
  sd_if_eq (pc := 69) (tgt := 75) (kt_tab_get kx_T_makeCredential 38 rfl) rfl kz_T_makeCredential_75 (sd_drop (k := 3) (sd_drop (k := 2) (sd_drop (k := 0) kz_T_makeCredential_72)))
noncomputable def kd_T_makeCredential_52 : kt_D := ki_push (.int 14) <| ki_iret
theorem kz_T_makeCredential_52 : kt_Snd l kt_shC kb_T_makeCredential 7 RX5 (some .int) 4 0 0 false false 52 kd_T_makeCredential_52 :=
  sd_bipush (pc := 52) (kt_tab_get kx_T_makeCredential 28 rfl) kc_b_14 <|
  sd_iret (pc := 54) rfl (by decide) (kt_tab_get kx_T_makeCredential 29 rfl)
noncomputable def kd_T_makeCredential_43 : kt_D := ki_aload 0 <| ki_push (.int 8) <| ki_callV kt_shC 5 1 kf_T_isTicket <| ki_if_ne kd_T_makeCredential_55 (ki_drop 2 (ki_drop 0 kd_T_makeCredential_52))
theorem kz_T_makeCredential_43 : kt_Snd l kt_shC kb_T_makeCredential 7 RX5 (some .int) 4 0 0 false false 43 kd_T_makeCredential_43 :=
  sd_aload_n (pc := 43) (kt_tab_get kx_T_makeCredential 24 rfl) rfl <|
  sd_bipush (pc := 44) (kt_tab_get kx_T_makeCredential 25 rfl) kc_b_8 <|
  sd_callV (pc := 46) km_T_isTicket (by decide) kv_T_isTicket (ci := 5) kt_hc5 (by decide) (kt_tab_get kx_T_makeCredential 26 rfl) (kg_T_makeCredential_in _ (List.mem_of_getElem? (i := 19) rfl)) <|
  sd_if_ne (pc := 49) (tgt := 55) (kt_tab_get kx_T_makeCredential 27 rfl) rfl kz_T_makeCredential_55 (sd_drop (k := 2) (sd_drop (k := 0) kz_T_makeCredential_52))
noncomputable def kd_T_makeCredential_30 : kt_D := ki_aload 0 <| ki_get kt_shC 5 0 <| ki_push (.int 0) <| ki_callV kt_shC 4 1 kf_S_has <| ki_istore 2 <| ki_iload 2 <| ki_if_eq kd_T_makeCredential_55 kd_T_makeCredential_43
theorem kz_T_makeCredential_30 : kt_Snd l kt_shC kb_T_makeCredential 7 RX5 (some .int) 4 0 0 false false 30 kd_T_makeCredential_30 :=
  sd_aload_n (pc := 30) (kt_tab_get kx_T_makeCredential 17 rfl) rfl <|
  sd_get (pc := 31) (k := 0) (ci := 5) kt_hc5 kt_hin5 (by decide) (kt_tab_get kx_T_makeCredential 18 rfl) (kg_T_makeCredential_in _ (List.mem_of_getElem? (i := 12) rfl)) <|
  sd_iconst (pc := 34) (kt_tab_get kx_T_makeCredential 19 rfl) kc_i_0 <|
  sd_callV (pc := 35) km_S_has (by decide) kv_S_has (ci := 4) kt_hc4 (by decide) (kt_tab_get kx_T_makeCredential 20 rfl) (kg_T_makeCredential_in _ (List.mem_of_getElem? (i := 20) rfl)) <|
  sd_istore_n (pc := 38) (kt_tab_get kx_T_makeCredential 21 rfl) rfl (by decide) <|
  sd_iload_n (pc := 39) (kt_tab_get kx_T_makeCredential 22 rfl) rfl <|
  sd_if_eq (pc := 40) (tgt := 55) (kt_tab_get kx_T_makeCredential 23 rfl) rfl kz_T_makeCredential_55 kz_T_makeCredential_43
noncomputable def kd_T_makeCredential_28 : kt_D := ki_push (.int 5) <| ki_iret
theorem kz_T_makeCredential_28 : kt_Snd l kt_shC kb_T_makeCredential 7 RX5 (some .int) 4 0 0 false false 28 kd_T_makeCredential_28 :=
  sd_iconst (pc := 28) (kt_tab_get kx_T_makeCredential 15 rfl) kc_i_5 <|
  sd_iret (pc := 29) rfl (by decide) (kt_tab_get kx_T_makeCredential 16 rfl)
noncomputable def kd_T_makeCredential_14 : kt_D := ki_aload 0 <| ki_get kt_shC 5 2 <| ki_push (.int 2) <| ki_push (.int 1) <| ki_push (.int 8) <| ki_callV kt_shC 2 3 kf_R_textHas <| ki_if_ne kd_T_makeCredential_30 (ki_drop 0 kd_T_makeCredential_28)
theorem kz_T_makeCredential_14 : kt_Snd l kt_shC kb_T_makeCredential 7 RX5 (some .int) 4 0 0 false false 14 kd_T_makeCredential_14 :=
  sd_aload_n (pc := 14) (kt_tab_get kx_T_makeCredential 8 rfl) rfl <|
  sd_get (pc := 15) (k := 2) (ci := 5) kt_hc5 kt_hin5 (by decide) (kt_tab_get kx_T_makeCredential 9 rfl) (kg_T_makeCredential_in _ (List.mem_of_getElem? (i := 5) rfl)) <|
  sd_iconst (pc := 18) (kt_tab_get kx_T_makeCredential 10 rfl) kc_i_2 <|
  sd_iconst (pc := 19) (kt_tab_get kx_T_makeCredential 11 rfl) kc_i_1 <|
  sd_bipush (pc := 20) (kt_tab_get kx_T_makeCredential 12 rfl) kc_b_8 <|
  sd_callV (pc := 22) km_R_textHas (by decide) kv_R_textHas (ci := 2) kt_hc2 (by decide) (kt_tab_get kx_T_makeCredential 13 rfl) (kg_T_makeCredential_in _ (List.mem_of_getElem? (i := 21) rfl)) <|
  sd_if_ne (pc := 25) (tgt := 30) (kt_tab_get kx_T_makeCredential 14 rfl) rfl kz_T_makeCredential_30 (sd_drop (k := 0) kz_T_makeCredential_28)
noncomputable def kd_T_makeCredential_12 : kt_D := ki_iload 1 <| ki_iret
theorem kz_T_makeCredential_12 : kt_Snd l kt_shC kb_T_makeCredential 7 RX5 (some .int) 4 0 0 false false 12 kd_T_makeCredential_12 :=
  sd_iload_n (pc := 12) (kt_tab_get kx_T_makeCredential 6 rfl) rfl <|
  sd_iret (pc := 13) rfl (by decide) (kt_tab_get kx_T_makeCredential 7 rfl)
noncomputable def kd_T_makeCredential_0 : kt_D := ki_aload 0 <| ki_get kt_shC 5 2 <| ki_callV kt_shC 2 0 kf_R_checkMake <| ki_istore 1 <| ki_iload 1 <| ki_if_eq (ki_drop 1 kd_T_makeCredential_14) (ki_drop 0 kd_T_makeCredential_12)
theorem kz_T_makeCredential_0 : kt_Snd l kt_shC kb_T_makeCredential 7 RX5 (some .int) 4 0 0 false false 0 kd_T_makeCredential_0 :=
  sd_aload_n (pc := 0) (kt_tab_get kx_T_makeCredential 0 rfl) rfl <|
  sd_get (pc := 1) (k := 2) (ci := 5) kt_hc5 kt_hin5 (by decide) (kt_tab_get kx_T_makeCredential 1 rfl) (kg_T_makeCredential_in _ (List.mem_of_getElem? (i := 5) rfl)) <|
  sd_callV (pc := 4) km_R_checkMake (by decide) kv_R_checkMake (ci := 2) kt_hc2 (by decide) (kt_tab_get kx_T_makeCredential 2 rfl) (kg_T_makeCredential_in _ (List.mem_of_getElem? (i := 22) rfl)) <|
  sd_istore_n (pc := 7) (kt_tab_get kx_T_makeCredential 3 rfl) rfl (by decide) <|
  sd_iload_n (pc := 8) (kt_tab_get kx_T_makeCredential 4 rfl) rfl <|
  sd_if_eq (pc := 9) (tgt := 14) (kt_tab_get kx_T_makeCredential 5 rfl) rfl (sd_drop (k := 1) kz_T_makeCredential_14) (sd_drop (k := 0) kz_T_makeCredential_12)
noncomputable def kf_T_makeCredential : kt_F := kt_run 7 kd_T_makeCredential_0
theorem km_T_makeCredential : kt_M l kt_shC ky_T_makeCredential kb_T_makeCredential 7 (some .int) 4 false kf_T_makeCredential := kt_method (by decide) rfl kz_T_makeCredential_0
noncomputable def kd_T_findCredentials_106 : kt_D := ki_iload 3 <| ki_iret
theorem kz_T_findCredentials_106 : kt_Snd l kt_shC kb_T_findCredentials 7 RX5 (some .int) 3 0 0 false false 106 kd_T_findCredentials_106 :=
  sd_iload_n (pc := 106) (kt_tab_get kx_T_findCredentials 53 rfl) rfl <|
  sd_iret (pc := 107) rfl (by decide) (kt_tab_get kx_T_findCredentials 54 rfl)
noncomputable def kd_T_findCredentials_89 (kh_25 : kt_D) : kt_D := ki_aload 0 <| ki_get kt_shC 5 0 <| ki_iload 4 <| ki_callV kt_shC 4 1 kf_S_labelBelow <| ki_istore 4 <| ki_iinc 5 1 <| kh_25
theorem kz_T_findCredentials_89 {kh_25 : kt_D} (zh_25 : kt_Snd l kt_shC kb_T_findCredentials 7 RX5 (some .int) 3 0 0 false false 25 kh_25) : kt_Snd l kt_shC kb_T_findCredentials 7 RX5 (some .int) 3 0 0 false false 89 (kd_T_findCredentials_89 kh_25) :=
  sd_aload_n (pc := 89) (kt_tab_get kx_T_findCredentials 46 rfl) rfl <|
  sd_get (pc := 90) (k := 0) (ci := 5) kt_hc5 kt_hin5 (by decide) (kt_tab_get kx_T_findCredentials 47 rfl) (kg_T_findCredentials_in _ (List.mem_of_getElem? (i := 4) rfl)) <|
  sd_iload (pc := 93) (kt_tab_get kx_T_findCredentials 48 rfl) <|
  sd_callV (pc := 95) km_S_labelBelow (by decide) kv_S_labelBelow (ci := 4) kt_hc4 (by decide) (kt_tab_get kx_T_findCredentials 49 rfl) (kg_T_findCredentials_in _ (List.mem_of_getElem? (i := 5) rfl)) <|
  sd_istore (pc := 98) (kt_tab_get kx_T_findCredentials 50 rfl) (by decide) <|
  sd_iinc (pc := 100) (kt_tab_get kx_T_findCredentials 51 rfl) kc_i_1 (by decide) <|
  sd_goto (pc := 103) (tgt := 25) (kt_tab_get kx_T_findCredentials 52 rfl) rfl zh_25
noncomputable def kd_T_findCredentials_78 (kh_25 : kt_D) : kt_D := ki_aload 0 <| ki_get kt_shC 5 4 <| ki_iload 3 <| ki_iload 6 <| ki_iast kt_shC <| ki_iinc 3 1 <| (ki_drop 6 (kd_T_findCredentials_89 kh_25))
theorem kz_T_findCredentials_78 {kh_25 : kt_D} (zh_25 : kt_Snd l kt_shC kb_T_findCredentials 7 RX5 (some .int) 3 0 0 false false 25 kh_25) : kt_Snd l kt_shC kb_T_findCredentials 7 RX5 (some .int) 3 0 0 false false 78 (kd_T_findCredentials_78 kh_25) :=
  sd_aload_n (pc := 78) (kt_tab_get kx_T_findCredentials 40 rfl) rfl <|
  sd_get (pc := 79) (k := 4) (ci := 5) kt_hc5 kt_hin5 (by decide) (kt_tab_get kx_T_findCredentials 41 rfl) (kg_T_findCredentials_in _ (List.mem_of_getElem? (i := 6) rfl)) <|
  sd_iload_n (pc := 82) (kt_tab_get kx_T_findCredentials 42 rfl) rfl <|
  sd_iload (pc := 83) (kt_tab_get kx_T_findCredentials 43 rfl) <|
  sd_iast (pc := 85) (kt_tab_get kx_T_findCredentials 44 rfl) <|
  sd_iinc (pc := 86) (kt_tab_get kx_T_findCredentials 45 rfl) kc_i_1 (by decide) <|
  (sd_drop (k := 6) (kz_T_findCredentials_89 zh_25))
noncomputable def kd_T_findCredentials_65 (kh_25 : kt_D) : kt_D := ki_aload 0 <| ki_get kt_shC 5 2 <| ki_push (.int 3) <| ki_iload 6 <| ki_callV kt_shC 2 2 kf_R_lists <| ki_if_eq (ki_drop 6 (kd_T_findCredentials_89 kh_25)) (kd_T_findCredentials_78 kh_25)
theorem kz_T_findCredentials_65 {kh_25 : kt_D} (zh_25 : kt_Snd l kt_shC kb_T_findCredentials 7 RX5 (some .int) 3 0 0 false false 25 kh_25) : kt_Snd l kt_shC kb_T_findCredentials 7 RX5 (some .int) 3 0 0 false false 65 (kd_T_findCredentials_65 kh_25) :=
  sd_aload_n (pc := 65) (kt_tab_get kx_T_findCredentials 34 rfl) rfl <|
  sd_get (pc := 66) (k := 2) (ci := 5) kt_hc5 kt_hin5 (by decide) (kt_tab_get kx_T_findCredentials 35 rfl) (kg_T_findCredentials_in _ (List.mem_of_getElem? (i := 7) rfl)) <|
  sd_iconst (pc := 69) (kt_tab_get kx_T_findCredentials 36 rfl) kc_i_3 <|
  sd_iload (pc := 70) (kt_tab_get kx_T_findCredentials 37 rfl) <|
  sd_callV (pc := 72) km_R_lists (by decide) kv_R_lists (ci := 2) kt_hc2 (by decide) (kt_tab_get kx_T_findCredentials 38 rfl) (kg_T_findCredentials_in _ (List.mem_of_getElem? (i := 8) rfl)) <|
  sd_if_eq (pc := 75) (tgt := 89) (kt_tab_get kx_T_findCredentials 39 rfl) rfl (sd_drop (k := 6) (kz_T_findCredentials_89 zh_25)) (kz_T_findCredentials_78 zh_25)
noncomputable def kd_T_findCredentials_61 (kh_25 : kt_D) : kt_D := ki_iload 2 <| ki_if_eq (kd_T_findCredentials_78 kh_25) (kd_T_findCredentials_65 kh_25)
theorem kz_T_findCredentials_61 {kh_25 : kt_D} (zh_25 : kt_Snd l kt_shC kb_T_findCredentials 7 RX5 (some .int) 3 0 0 false false 25 kh_25) : kt_Snd l kt_shC kb_T_findCredentials 7 RX5 (some .int) 3 0 0 false false 61 (kd_T_findCredentials_61 kh_25) :=
  sd_iload_n (pc := 61) (kt_tab_get kx_T_findCredentials 32 rfl) rfl <|
  sd_if_eq (pc := 62) (tgt := 78) (kt_tab_get kx_T_findCredentials 33 rfl) rfl (kz_T_findCredentials_78 zh_25) (kz_T_findCredentials_65 zh_25)
noncomputable def kd_T_findCredentials_44 (kh_25 : kt_D) : kt_D := ki_iload 4 <| ki_push (.int 16) <| ki_irem <| ki_istore 6 <| ki_aload 0 <| ki_iload 6 <| ki_iload 1 <| ki_callV kt_shC 5 2 kf_T_isCredential <| ki_if_eq (ki_drop 6 (kd_T_findCredentials_89 kh_25)) (kd_T_findCredentials_61 kh_25)
theorem kz_T_findCredentials_44 {kh_25 : kt_D} (zh_25 : kt_Snd l kt_shC kb_T_findCredentials 7 RX5 (some .int) 3 0 0 false false 25 kh_25) : kt_Snd l kt_shC kb_T_findCredentials 7 RX5 (some .int) 3 0 0 false false 44 (kd_T_findCredentials_44 kh_25) :=
  sd_iload (pc := 44) (kt_tab_get kx_T_findCredentials 23 rfl) <|
  sd_bipush (pc := 46) (kt_tab_get kx_T_findCredentials 24 rfl) kc_b_16 <|
  sd_irem (pc := 48) (kt_tab_get kx_T_findCredentials 25 rfl) <|
  sd_istore (pc := 49) (kt_tab_get kx_T_findCredentials 26 rfl) (by decide) <|
  sd_aload_n (pc := 51) (kt_tab_get kx_T_findCredentials 27 rfl) rfl <|
  sd_iload (pc := 52) (kt_tab_get kx_T_findCredentials 28 rfl) <|
  sd_iload_n (pc := 54) (kt_tab_get kx_T_findCredentials 29 rfl) rfl <|
  sd_callV (pc := 55) km_T_isCredential (by decide) kv_T_isCredential (ci := 5) kt_hc5 (by decide) (kt_tab_get kx_T_findCredentials 30 rfl) (kg_T_findCredentials_in _ (List.mem_of_getElem? (i := 9) rfl)) <|
  sd_if_eq (pc := 58) (tgt := 89) (kt_tab_get kx_T_findCredentials 31 rfl) rfl (sd_drop (k := 6) (kz_T_findCredentials_89 zh_25)) (kz_T_findCredentials_61 zh_25)
noncomputable def kd_T_findCredentials_38 (kh_25 : kt_D) : kt_D := ki_iload 3 <| ki_push (.int 6) <| ki_icmp_ge (ki_drop 5 (ki_drop 4 (ki_drop 2 (ki_drop 1 (ki_drop 0 kd_T_findCredentials_106))))) (kd_T_findCredentials_44 kh_25)
theorem kz_T_findCredentials_38 {kh_25 : kt_D} (zh_25 : kt_Snd l kt_shC kb_T_findCredentials 7 RX5 (some .int) 3 0 0 false false 25 kh_25) : kt_Snd l kt_shC kb_T_findCredentials 7 RX5 (some .int) 3 0 0 false false 38 (kd_T_findCredentials_38 kh_25) :=
  sd_iload_n (pc := 38) (kt_tab_get kx_T_findCredentials 20 rfl) rfl <|
  sd_bipush (pc := 39) (kt_tab_get kx_T_findCredentials 21 rfl) kc_b_6 <|
  sd_icmp_ge (pc := 41) (tgt := 106) (kt_tab_get kx_T_findCredentials 22 rfl) rfl (sd_drop (k := 5) (sd_drop (k := 4) (sd_drop (k := 2) (sd_drop (k := 1) (sd_drop (k := 0) kz_T_findCredentials_106))))) (kz_T_findCredentials_44 zh_25)
noncomputable def kd_T_findCredentials_32 (kh_25 : kt_D) : kt_D := ki_iload 4 <| ki_push (.int (-1)) <| ki_icmp_eq (ki_drop 5 (ki_drop 4 (ki_drop 2 (ki_drop 1 (ki_drop 0 kd_T_findCredentials_106))))) (kd_T_findCredentials_38 kh_25)
theorem kz_T_findCredentials_32 {kh_25 : kt_D} (zh_25 : kt_Snd l kt_shC kb_T_findCredentials 7 RX5 (some .int) 3 0 0 false false 25 kh_25) : kt_Snd l kt_shC kb_T_findCredentials 7 RX5 (some .int) 3 0 0 false false 32 (kd_T_findCredentials_32 kh_25) :=
  sd_iload (pc := 32) (kt_tab_get kx_T_findCredentials 17 rfl) <|
  sd_iconst (pc := 34) (kt_tab_get kx_T_findCredentials 18 rfl) kc_i_m1 <|
  sd_icmp_eq (pc := 35) (tgt := 106) (kt_tab_get kx_T_findCredentials 19 rfl) rfl (sd_drop (k := 5) (sd_drop (k := 4) (sd_drop (k := 2) (sd_drop (k := 1) (sd_drop (k := 0) kz_T_findCredentials_106))))) (kz_T_findCredentials_38 zh_25)
noncomputable def kd_T_findCredentials_25b (kh_25 : kt_D) : kt_D := ki_iload 5 <| ki_push (.int 7) <| ki_icmp_ge (ki_drop 5 (ki_drop 4 (ki_drop 2 (ki_drop 1 (ki_drop 0 kd_T_findCredentials_106))))) (kd_T_findCredentials_32 kh_25)
theorem kz_T_findCredentials_25b {kh_25 : kt_D} (zh_25 : kt_Snd l kt_shC kb_T_findCredentials 7 RX5 (some .int) 3 0 0 false false 25 kh_25) : kt_Snd l kt_shC kb_T_findCredentials 7 RX5 (some .int) 3 0 0 false false 25 (kd_T_findCredentials_25b kh_25) :=
  sd_iload (pc := 25) (kt_tab_get kx_T_findCredentials 14 rfl) <|
  sd_bipush (pc := 27) (kt_tab_get kx_T_findCredentials 15 rfl) kc_b_7 <|
  sd_icmp_ge (pc := 29) (tgt := 106) (kt_tab_get kx_T_findCredentials 16 rfl) rfl (sd_drop (k := 5) (sd_drop (k := 4) (sd_drop (k := 2) (sd_drop (k := 1) (sd_drop (k := 0) kz_T_findCredentials_106))))) (kz_T_findCredentials_32 zh_25)
noncomputable def kd_T_findCredentials_25 (n : Nat) : kt_D := Nat.rec (fun _ _ _ => none) (fun _ ih => kd_T_findCredentials_25b ih) n
theorem kz_T_findCredentials_25 (n : Nat) : kt_Snd l kt_shC kb_T_findCredentials 7 RX5 (some .int) 3 0 0 false false 25 (kd_T_findCredentials_25 n) := by
  induction n with
  | zero => exact sd_fail
  | succ n ih => exact kz_T_findCredentials_25b ih
noncomputable def kd_T_findCredentials_0 : kt_D := ki_aload 0 <| ki_get kt_shC 5 2 <| ki_push (.int 3) <| ki_callV kt_shC 2 1 kf_R_has <| ki_istore 2 <| ki_push (.int 0) <| ki_istore 3 <| ki_aload 0 <| ki_get kt_shC 5 0 <| ki_push (.int 2147483647) <| ki_callV kt_shC 4 1 kf_S_labelBelow <| ki_istore 4 <| ki_push (.int 0) <| ki_istore 5 <| (kd_T_findCredentials_25 100)
theorem kz_T_findCredentials_0 : kt_Snd l kt_shC kb_T_findCredentials 7 RX5 (some .int) 3 0 0 false false 0 kd_T_findCredentials_0 :=
  sd_aload_n (pc := 0) (kt_tab_get kx_T_findCredentials 0 rfl) rfl <|
  sd_get (pc := 1) (k := 2) (ci := 5) kt_hc5 kt_hin5 (by decide) (kt_tab_get kx_T_findCredentials 1 rfl) (kg_T_findCredentials_in _ (List.mem_of_getElem? (i := 7) rfl)) <|
  sd_iconst (pc := 4) (kt_tab_get kx_T_findCredentials 2 rfl) kc_i_3 <|
  sd_callV (pc := 5) km_R_has (by decide) kv_R_has (ci := 2) kt_hc2 (by decide) (kt_tab_get kx_T_findCredentials 3 rfl) (kg_T_findCredentials_in _ (List.mem_of_getElem? (i := 10) rfl)) <|
  sd_istore_n (pc := 8) (kt_tab_get kx_T_findCredentials 4 rfl) rfl (by decide) <|
  sd_iconst (pc := 9) (kt_tab_get kx_T_findCredentials 5 rfl) kc_i_0 <|
  sd_istore_n (pc := 10) (kt_tab_get kx_T_findCredentials 6 rfl) rfl (by decide) <|
  sd_aload_n (pc := 11) (kt_tab_get kx_T_findCredentials 7 rfl) rfl <|
  sd_get (pc := 12) (k := 0) (ci := 5) kt_hc5 kt_hin5 (by decide) (kt_tab_get kx_T_findCredentials 8 rfl) (kg_T_findCredentials_in _ (List.mem_of_getElem? (i := 4) rfl)) <|
  sd_ldc (pc := 15) (kt_tab_get kx_T_findCredentials 9 rfl) (kg_T_findCredentials_in _ (List.mem_of_getElem? (i := 11) rfl)) <|
  sd_callV (pc := 17) km_S_labelBelow (by decide) kv_S_labelBelow (ci := 4) kt_hc4 (by decide) (kt_tab_get kx_T_findCredentials 10 rfl) (kg_T_findCredentials_in _ (List.mem_of_getElem? (i := 5) rfl)) <|
  sd_istore (pc := 20) (kt_tab_get kx_T_findCredentials 11 rfl) (by decide) <|
  sd_iconst (pc := 22) (kt_tab_get kx_T_findCredentials 12 rfl) kc_i_0 <|
  sd_istore (pc := 23) (kt_tab_get kx_T_findCredentials 13 rfl) (by decide) <|
  (kz_T_findCredentials_25 100)
noncomputable def kf_T_findCredentials : kt_F := kt_run 7 kd_T_findCredentials_0
theorem km_T_findCredentials : kt_M l kt_shC ky_T_findCredentials kb_T_findCredentials 7 (some .int) 3 false kf_T_findCredentials := kt_method (by decide) rfl kz_T_findCredentials_0
noncomputable def kd_T_signFirst_86 : kt_D := ki_aload 0 <| ki_iload 3 <| ki_put kt_shC 5 10 0 <| ki_aload 0 <| ki_aload 0 <| ki_get kt_shC 5 2 <| ki_push (.int 2) <| ki_callV kt_shC 2 1 kf_R_numberOf <| ki_put kt_shC 5 11 0 <| ki_aload 0 <| ki_iload 2 <| ki_put kt_shC 5 12 1 <| ki_aload 0 <| ki_aload 0 <| ki_get kt_shC 5 4 <| ki_push (.int 0) <| ki_iald kt_shC <| ki_iload 3 <| ki_callV kt_shC 5 2 kf_T_signWith <| ki_iret
theorem kz_T_signFirst_86 : kt_Snd l kt_shC kb_T_signFirst 4 RX5 (some .int) 4 0 0 false false 86 kd_T_signFirst_86 :=
  sd_aload_n (pc := 86) (kt_tab_get kx_T_signFirst 46 rfl) rfl <|
  sd_iload_n (pc := 87) (kt_tab_get kx_T_signFirst 47 rfl) rfl <|
  sd_put (pc := 88) (k := 10) (ci := 5) kt_hc5 kt_hin5 tyX5_ok nmX5 (by decide) rfl rfl (Or.inl ⟨rfl, rfl⟩) (kt_tab_get kx_T_signFirst 48 rfl) (kg_T_signFirst_in _ (List.mem_of_getElem? (i := 4) rfl)) <|
  sd_aload_n (pc := 91) (kt_tab_get kx_T_signFirst 49 rfl) rfl <|
  sd_aload_n (pc := 92) (kt_tab_get kx_T_signFirst 50 rfl) rfl <|
  sd_get (pc := 93) (k := 2) (ci := 5) kt_hc5 kt_hin5 (by decide) (kt_tab_get kx_T_signFirst 51 rfl) (kg_T_signFirst_in _ (List.mem_of_getElem? (i := 5) rfl)) <|
  sd_iconst (pc := 96) (kt_tab_get kx_T_signFirst 52 rfl) kc_i_2 <|
  sd_callV (pc := 97) km_R_numberOf (by decide) kv_R_numberOf (ci := 2) kt_hc2 (by decide) (kt_tab_get kx_T_signFirst 53 rfl) (kg_T_signFirst_in _ (List.mem_of_getElem? (i := 6) rfl)) <|
  sd_put (pc := 100) (k := 11) (ci := 5) kt_hc5 kt_hin5 tyX5_ok nmX5 (by decide) rfl rfl (Or.inl ⟨rfl, rfl⟩) (kt_tab_get kx_T_signFirst 54 rfl) (kg_T_signFirst_in _ (List.mem_of_getElem? (i := 7) rfl)) <|
  sd_aload_n (pc := 103) (kt_tab_get kx_T_signFirst 55 rfl) rfl <|
  sd_iload_n (pc := 104) (kt_tab_get kx_T_signFirst 56 rfl) rfl <|
  sd_put (pc := 105) (k := 12) (ci := 5) kt_hc5 kt_hin5 tyX5_ok nmX5 (by decide) rfl rfl (Or.inr ⟨rfl, rfl⟩) (kt_tab_get kx_T_signFirst 57 rfl) (kg_T_signFirst_in _ (List.mem_of_getElem? (i := 8) rfl)) <|
  sd_aload_n (pc := 108) (kt_tab_get kx_T_signFirst 58 rfl) rfl <|
  sd_aload_n (pc := 109) (kt_tab_get kx_T_signFirst 59 rfl) rfl <|
  sd_get (pc := 110) (k := 4) (ci := 5) kt_hc5 kt_hin5 (by decide) (kt_tab_get kx_T_signFirst 60 rfl) (kg_T_signFirst_in _ (List.mem_of_getElem? (i := 9) rfl)) <|
  sd_iconst (pc := 113) (kt_tab_get kx_T_signFirst 61 rfl) kc_i_0 <|
  sd_iald (pc := 114) (kt_tab_get kx_T_signFirst 62 rfl) <|
  sd_iload_n (pc := 115) (kt_tab_get kx_T_signFirst 63 rfl) rfl <|
  sd_callV (pc := 116) km_T_signWith (by decide) kv_T_signWith (ci := 5) kt_hc5 (by decide) (kt_tab_get kx_T_signFirst 64 rfl) (kg_T_signFirst_in _ (List.mem_of_getElem? (i := 10) rfl)) <|
  sd_iret (pc := 119) rfl (by decide) (kt_tab_get kx_T_signFirst 65 rfl)
noncomputable def kd_T_signFirst_83 : kt_D := ki_push (.int 7) <| ki_iret
theorem kz_T_signFirst_83 : kt_Snd l kt_shC kb_T_signFirst 4 RX5 (some .int) 4 0 0 false false 83 kd_T_signFirst_83 :=
  sd_bipush (pc := 83) (kt_tab_get kx_T_signFirst 44 rfl) kc_b_7 <|
  sd_iret (pc := 85) rfl (by decide) (kt_tab_get kx_T_signFirst 45 rfl)
noncomputable def kd_T_signFirst_76 : kt_D := ki_aload 0 <| ki_callV kt_shC 5 0 kf_T_usePress <| ki_if_ne kd_T_signFirst_86 (ki_drop 3 (ki_drop 2 (ki_drop 0 kd_T_signFirst_83)))
theorem kz_T_signFirst_76 : kt_Snd l kt_shC kb_T_signFirst 4 RX5 (some .int) 4 0 0 false false 76 kd_T_signFirst_76 :=
  sd_aload_n (pc := 76) (kt_tab_get kx_T_signFirst 41 rfl) rfl <|
  sd_callV (pc := 77) km_T_usePress (by decide) kv_T_usePress (ci := 5) kt_hc5 (by decide) (kt_tab_get kx_T_signFirst 42 rfl) (kg_T_signFirst_in _ (List.mem_of_getElem? (i := 11) rfl)) <|
  sd_if_ne (pc := 80) (tgt := 86) (kt_tab_get kx_T_signFirst 43 rfl) rfl kz_T_signFirst_86 (sd_drop (k := 3) (sd_drop (k := 2) (sd_drop (k := 0) kz_T_signFirst_83)))
noncomputable def kd_T_signFirst_73 : kt_D := ki_push (.int 9) <| ki_iret
theorem kz_T_signFirst_73 : kt_Snd l kt_shC kb_T_signFirst 4 RX5 (some .int) 4 0 0 false false 73 kd_T_signFirst_73 :=
  sd_bipush (pc := 73) (kt_tab_get kx_T_signFirst 39 rfl) kc_b_9 <|
  sd_iret (pc := 75) rfl (by decide) (kt_tab_get kx_T_signFirst 40 rfl)
noncomputable def kd_T_signFirst_56 : kt_D := ki_aload 0 <| ki_aload 0 <| ki_get kt_shC 5 2 <| ki_push (.int 1) <| ki_callV kt_shC 2 1 kf_R_textNumber <| ki_callV kt_shC 5 1 kf_T_findCredentials <| ki_istore 3 <| ki_iload 3 <| ki_if_ne kd_T_signFirst_76 (ki_drop 3 (ki_drop 2 (ki_drop 0 kd_T_signFirst_73)))
theorem kz_T_signFirst_56 : kt_Snd l kt_shC kb_T_signFirst 4 RX5 (some .int) 4 0 0 false false 56 kd_T_signFirst_56 :=
  sd_aload_n (pc := 56) (kt_tab_get kx_T_signFirst 30 rfl) rfl <|
  sd_aload_n (pc := 57) (kt_tab_get kx_T_signFirst 31 rfl) rfl <|
  sd_get (pc := 58) (k := 2) (ci := 5) kt_hc5 kt_hin5 (by decide) (kt_tab_get kx_T_signFirst 32 rfl) (kg_T_signFirst_in _ (List.mem_of_getElem? (i := 5) rfl)) <|
  sd_iconst (pc := 61) (kt_tab_get kx_T_signFirst 33 rfl) kc_i_1 <|
  sd_callV (pc := 62) km_R_textNumber (by decide) kv_R_textNumber (ci := 2) kt_hc2 (by decide) (kt_tab_get kx_T_signFirst 34 rfl) (kg_T_signFirst_in _ (List.mem_of_getElem? (i := 12) rfl)) <|
  sd_callV (pc := 65) km_T_findCredentials (by decide) kv_T_findCredentials (ci := 5) kt_hc5 (by decide) (kt_tab_get kx_T_signFirst 35 rfl) (kg_T_signFirst_in _ (List.mem_of_getElem? (i := 13) rfl)) <|
  sd_istore_n (pc := 68) (kt_tab_get kx_T_signFirst 36 rfl) rfl (by decide) <|
  sd_iload_n (pc := 69) (kt_tab_get kx_T_signFirst 37 rfl) rfl <|
  sd_if_ne (pc := 70) (tgt := 76) (kt_tab_get kx_T_signFirst 38 rfl) rfl kz_T_signFirst_76 (sd_drop (k := 3) (sd_drop (k := 2) (sd_drop (k := 0) kz_T_signFirst_73)))
noncomputable def kd_T_signFirst_53 : kt_D := ki_push (.int 14) <| ki_iret
theorem kz_T_signFirst_53 : kt_Snd l kt_shC kb_T_signFirst 4 RX5 (some .int) 4 0 0 false false 53 kd_T_signFirst_53 :=
  sd_bipush (pc := 53) (kt_tab_get kx_T_signFirst 28 rfl) kc_b_14 <|
  sd_iret (pc := 55) rfl (by decide) (kt_tab_get kx_T_signFirst 29 rfl)
noncomputable def kd_T_signFirst_44 : kt_D := ki_aload 0 <| ki_push (.int 6) <| ki_callV kt_shC 5 1 kf_T_isTicket <| ki_if_ne kd_T_signFirst_56 (ki_drop 2 (ki_drop 0 kd_T_signFirst_53))
theorem kz_T_signFirst_44 : kt_Snd l kt_shC kb_T_signFirst 4 RX5 (some .int) 4 0 0 false false 44 kd_T_signFirst_44 :=
  sd_aload_n (pc := 44) (kt_tab_get kx_T_signFirst 24 rfl) rfl <|
  sd_bipush (pc := 45) (kt_tab_get kx_T_signFirst 25 rfl) kc_b_6 <|
  sd_callV (pc := 47) km_T_isTicket (by decide) kv_T_isTicket (ci := 5) kt_hc5 (by decide) (kt_tab_get kx_T_signFirst 26 rfl) (kg_T_signFirst_in _ (List.mem_of_getElem? (i := 14) rfl)) <|
  sd_if_ne (pc := 50) (tgt := 56) (kt_tab_get kx_T_signFirst 27 rfl) rfl kz_T_signFirst_56 (sd_drop (k := 2) (sd_drop (k := 0) kz_T_signFirst_53))
noncomputable def kd_T_signFirst_30 : kt_D := ki_aload 0 <| ki_get kt_shC 5 2 <| ki_push (.int 6) <| ki_callV kt_shC 2 1 kf_R_has <| ki_istore 2 <| ki_iload 2 <| ki_if_eq kd_T_signFirst_56 kd_T_signFirst_44
theorem kz_T_signFirst_30 : kt_Snd l kt_shC kb_T_signFirst 4 RX5 (some .int) 4 0 0 false false 30 kd_T_signFirst_30 :=
  sd_aload_n (pc := 30) (kt_tab_get kx_T_signFirst 17 rfl) rfl <|
  sd_get (pc := 31) (k := 2) (ci := 5) kt_hc5 kt_hin5 (by decide) (kt_tab_get kx_T_signFirst 18 rfl) (kg_T_signFirst_in _ (List.mem_of_getElem? (i := 5) rfl)) <|
  sd_bipush (pc := 34) (kt_tab_get kx_T_signFirst 19 rfl) kc_b_6 <|
  sd_callV (pc := 36) km_R_has (by decide) kv_R_has (ci := 2) kt_hc2 (by decide) (kt_tab_get kx_T_signFirst 20 rfl) (kg_T_signFirst_in _ (List.mem_of_getElem? (i := 15) rfl)) <|
  sd_istore_n (pc := 39) (kt_tab_get kx_T_signFirst 21 rfl) rfl (by decide) <|
  sd_iload_n (pc := 40) (kt_tab_get kx_T_signFirst 22 rfl) rfl <|
  sd_if_eq (pc := 41) (tgt := 56) (kt_tab_get kx_T_signFirst 23 rfl) rfl kz_T_signFirst_56 kz_T_signFirst_44
noncomputable def kd_T_signFirst_28 : kt_D := ki_push (.int 5) <| ki_iret
theorem kz_T_signFirst_28 : kt_Snd l kt_shC kb_T_signFirst 4 RX5 (some .int) 4 0 0 false false 28 kd_T_signFirst_28 :=
  sd_iconst (pc := 28) (kt_tab_get kx_T_signFirst 15 rfl) kc_i_5 <|
  sd_iret (pc := 29) rfl (by decide) (kt_tab_get kx_T_signFirst 16 rfl)
noncomputable def kd_T_signFirst_14 : kt_D := ki_aload 0 <| ki_get kt_shC 5 2 <| ki_push (.int 1) <| ki_push (.int 1) <| ki_push (.int 8) <| ki_callV kt_shC 2 3 kf_R_textHas <| ki_if_ne kd_T_signFirst_30 (ki_drop 0 kd_T_signFirst_28)
theorem kz_T_signFirst_14 : kt_Snd l kt_shC kb_T_signFirst 4 RX5 (some .int) 4 0 0 false false 14 kd_T_signFirst_14 :=
  sd_aload_n (pc := 14) (kt_tab_get kx_T_signFirst 8 rfl) rfl <|
  sd_get (pc := 15) (k := 2) (ci := 5) kt_hc5 kt_hin5 (by decide) (kt_tab_get kx_T_signFirst 9 rfl) (kg_T_signFirst_in _ (List.mem_of_getElem? (i := 5) rfl)) <|
  sd_iconst (pc := 18) (kt_tab_get kx_T_signFirst 10 rfl) kc_i_1 <|
  sd_iconst (pc := 19) (kt_tab_get kx_T_signFirst 11 rfl) kc_i_1 <|
  sd_bipush (pc := 20) (kt_tab_get kx_T_signFirst 12 rfl) kc_b_8 <|
  sd_callV (pc := 22) km_R_textHas (by decide) kv_R_textHas (ci := 2) kt_hc2 (by decide) (kt_tab_get kx_T_signFirst 13 rfl) (kg_T_signFirst_in _ (List.mem_of_getElem? (i := 16) rfl)) <|
  sd_if_ne (pc := 25) (tgt := 30) (kt_tab_get kx_T_signFirst 14 rfl) rfl kz_T_signFirst_30 (sd_drop (k := 0) kz_T_signFirst_28)
noncomputable def kd_T_signFirst_12 : kt_D := ki_iload 1 <| ki_iret
theorem kz_T_signFirst_12 : kt_Snd l kt_shC kb_T_signFirst 4 RX5 (some .int) 4 0 0 false false 12 kd_T_signFirst_12 :=
  sd_iload_n (pc := 12) (kt_tab_get kx_T_signFirst 6 rfl) rfl <|
  sd_iret (pc := 13) rfl (by decide) (kt_tab_get kx_T_signFirst 7 rfl)
noncomputable def kd_T_signFirst_0 : kt_D := ki_aload 0 <| ki_get kt_shC 5 2 <| ki_callV kt_shC 2 0 kf_R_checkAssert <| ki_istore 1 <| ki_iload 1 <| ki_if_eq (ki_drop 1 kd_T_signFirst_14) (ki_drop 0 kd_T_signFirst_12)
theorem kz_T_signFirst_0 : kt_Snd l kt_shC kb_T_signFirst 4 RX5 (some .int) 4 0 0 false false 0 kd_T_signFirst_0 :=
  sd_aload_n (pc := 0) (kt_tab_get kx_T_signFirst 0 rfl) rfl <|
  sd_get (pc := 1) (k := 2) (ci := 5) kt_hc5 kt_hin5 (by decide) (kt_tab_get kx_T_signFirst 1 rfl) (kg_T_signFirst_in _ (List.mem_of_getElem? (i := 5) rfl)) <|
  sd_callV (pc := 4) km_R_checkAssert (by decide) kv_R_checkAssert (ci := 2) kt_hc2 (by decide) (kt_tab_get kx_T_signFirst 2 rfl) (kg_T_signFirst_in _ (List.mem_of_getElem? (i := 17) rfl)) <|
  sd_istore_n (pc := 7) (kt_tab_get kx_T_signFirst 3 rfl) rfl (by decide) <|
  sd_iload_n (pc := 8) (kt_tab_get kx_T_signFirst 4 rfl) rfl <|
  sd_if_eq (pc := 9) (tgt := 14) (kt_tab_get kx_T_signFirst 5 rfl) rfl (sd_drop (k := 1) kz_T_signFirst_14) (sd_drop (k := 0) kz_T_signFirst_12)
noncomputable def kf_T_signFirst : kt_F := kt_run 4 kd_T_signFirst_0
theorem km_T_signFirst : kt_M l kt_shC ky_T_signFirst kb_T_signFirst 4 (some .int) 4 false kf_T_signFirst := kt_method (by decide) rfl kz_T_signFirst_0
noncomputable def kd_T_tellInfo_70 : kt_D := ki_callV kt_shC 0 2 kf_B_addHead <| ki_aload 0 <| ki_get kt_shC 5 3 <| ki_push (.int 3) <| ki_iload 2 <| ki_callV kt_shC 0 2 kf_B_addPair <| ki_push (.int 0) <| ki_iret
theorem kz_T_tellInfo_70 : kt_Snd l kt_shC kb_T_tellInfo 3 RX5 (some .int) 3 0 0 false false 70 kd_T_tellInfo_70 :=
  sd_callV (pc := 70) km_B_addHead (by decide) kv_B_addHead (ci := 0) kt_hc0 (by decide) (kt_tab_get kx_T_tellInfo 38 rfl) (kg_T_tellInfo_in _ (List.mem_of_getElem? (i := 4) rfl)) <|
  sd_aload_n (pc := 73) (kt_tab_get kx_T_tellInfo 39 rfl) rfl <|
  sd_get (pc := 74) (k := 3) (ci := 5) kt_hc5 kt_hin5 (by decide) (kt_tab_get kx_T_tellInfo 40 rfl) (kg_T_tellInfo_in _ (List.mem_of_getElem? (i := 5) rfl)) <|
  sd_iconst (pc := 77) (kt_tab_get kx_T_tellInfo 41 rfl) kc_i_3 <|
  sd_iload_n (pc := 78) (kt_tab_get kx_T_tellInfo 42 rfl) rfl <|
  sd_callV (pc := 79) km_B_addPair (by decide) kv_B_addPair (ci := 0) kt_hc0 (by decide) (kt_tab_get kx_T_tellInfo 43 rfl) (kg_T_tellInfo_in _ (List.mem_of_getElem? (i := 6) rfl)) <|
  sd_iconst (pc := 82) (kt_tab_get kx_T_tellInfo 44 rfl) kc_i_0 <|
  sd_iret (pc := 83) rfl (by decide) (kt_tab_get kx_T_tellInfo 45 rfl)
noncomputable def kd_T_tellInfo_68 : kt_D := ki_push (.int 20) <| kd_T_tellInfo_70
theorem kz_T_tellInfo_68 : kt_Snd l kt_shC kb_T_tellInfo 3 RX5 (some .int) 3 0 0 false false 68 kd_T_tellInfo_68 :=
  sd_bipush (pc := 68) (kt_tab_get kx_T_tellInfo 37 rfl) kc_b_20 <|
  kz_T_tellInfo_70
noncomputable def kd_T_tellInfo_63 : kt_D := ki_push (.int 21) <| kd_T_tellInfo_70
theorem kz_T_tellInfo_63 : kt_Snd l kt_shC kb_T_tellInfo 3 RX5 (some .int) 3 0 0 false false 63 kd_T_tellInfo_63 :=
  sd_bipush (pc := 63) (kt_tab_get kx_T_tellInfo 35 rfl) kc_b_21 <|
  sd_goto (pc := 65) (tgt := 70) (kt_tab_get kx_T_tellInfo 36 rfl) rfl kz_T_tellInfo_70
noncomputable def kd_T_tellInfo_40 : kt_D := ki_isub <| ki_callV kt_shC 0 2 kf_B_addPair <| ki_aload 0 <| ki_get kt_shC 5 3 <| ki_push (.int 0) <| ki_push (.int 2) <| ki_callV kt_shC 0 2 kf_B_addHead <| ki_aload 0 <| ki_get kt_shC 5 3 <| ki_push (.int 7) <| ki_iload 1 <| ki_if_eq (ki_drop 1 kd_T_tellInfo_68) (ki_drop 1 kd_T_tellInfo_63)
theorem kz_T_tellInfo_40 : kt_Snd l kt_shC kb_T_tellInfo 3 RX5 (some .int) 3 0 0 false false 40 kd_T_tellInfo_40 :=
  sd_isub (pc := 40) (kt_tab_get kx_T_tellInfo 23 rfl) <|
  sd_callV (pc := 41) km_B_addPair (by decide) kv_B_addPair (ci := 0) kt_hc0 (by decide) (kt_tab_get kx_T_tellInfo 24 rfl) (kg_T_tellInfo_in _ (List.mem_of_getElem? (i := 6) rfl)) <|
  sd_aload_n (pc := 44) (kt_tab_get kx_T_tellInfo 25 rfl) rfl <|
  sd_get (pc := 45) (k := 3) (ci := 5) kt_hc5 kt_hin5 (by decide) (kt_tab_get kx_T_tellInfo 26 rfl) (kg_T_tellInfo_in _ (List.mem_of_getElem? (i := 5) rfl)) <|
  sd_iconst (pc := 48) (kt_tab_get kx_T_tellInfo 27 rfl) kc_i_0 <|
  sd_iconst (pc := 49) (kt_tab_get kx_T_tellInfo 28 rfl) kc_i_2 <|
  sd_callV (pc := 50) km_B_addHead (by decide) kv_B_addHead (ci := 0) kt_hc0 (by decide) (kt_tab_get kx_T_tellInfo 29 rfl) (kg_T_tellInfo_in _ (List.mem_of_getElem? (i := 4) rfl)) <|
  sd_aload_n (pc := 53) (kt_tab_get kx_T_tellInfo 30 rfl) rfl <|
  sd_get (pc := 54) (k := 3) (ci := 5) kt_hc5 kt_hin5 (by decide) (kt_tab_get kx_T_tellInfo 31 rfl) (kg_T_tellInfo_in _ (List.mem_of_getElem? (i := 5) rfl)) <|
  sd_bipush (pc := 57) (kt_tab_get kx_T_tellInfo 32 rfl) kc_b_7 <|
  sd_iload_n (pc := 59) (kt_tab_get kx_T_tellInfo 33 rfl) rfl <|
  sd_if_eq (pc := 60) (tgt := 68) (kt_tab_get kx_T_tellInfo 34 rfl) rfl (sd_drop (k := 1) kz_T_tellInfo_68) (sd_drop (k := 1) kz_T_tellInfo_63)
noncomputable def kd_T_tellInfo_39 : kt_D := ki_push (.int 0) <| kd_T_tellInfo_40
theorem kz_T_tellInfo_39 : kt_Snd l kt_shC kb_T_tellInfo 3 RX5 (some .int) 3 0 0 false false 39 kd_T_tellInfo_39 :=
  sd_iconst (pc := 39) (kt_tab_get kx_T_tellInfo 22 rfl) kc_i_0 <|
  kz_T_tellInfo_40
noncomputable def kd_T_tellInfo_35 : kt_D := ki_push (.int 1) <| kd_T_tellInfo_40
theorem kz_T_tellInfo_35 : kt_Snd l kt_shC kb_T_tellInfo 3 RX5 (some .int) 3 0 0 false false 35 kd_T_tellInfo_35 :=
  sd_iconst (pc := 35) (kt_tab_get kx_T_tellInfo 20 rfl) kc_i_1 <|
  sd_goto (pc := 36) (tgt := 40) (kt_tab_get kx_T_tellInfo 21 rfl) rfl kz_T_tellInfo_40
noncomputable def kd_T_tellInfo_0 : kt_D := ki_aload 0 <| ki_get kt_shC 5 0 <| ki_push (.int 0) <| ki_callV kt_shC 4 1 kf_S_has <| ki_istore 1 <| ki_aload 0 <| ki_get kt_shC 5 0 <| ki_callV kt_shC 4 0 kf_S_erasedPages <| ki_istore 2 <| ki_aload 0 <| ki_push (.int 3) <| ki_callV kt_shC 5 1 kf_T_beginAnswer <| ki_aload 0 <| ki_get kt_shC 5 3 <| ki_push (.int 1) <| ki_push (.int 7) <| ki_iload 2 <| ki_isub <| ki_iload 1 <| ki_if_eq kd_T_tellInfo_39 kd_T_tellInfo_35
theorem kz_T_tellInfo_0 : kt_Snd l kt_shC kb_T_tellInfo 3 RX5 (some .int) 3 0 0 false false 0 kd_T_tellInfo_0 :=
  sd_aload_n (pc := 0) (kt_tab_get kx_T_tellInfo 0 rfl) rfl <|
  sd_get (pc := 1) (k := 0) (ci := 5) kt_hc5 kt_hin5 (by decide) (kt_tab_get kx_T_tellInfo 1 rfl) (kg_T_tellInfo_in _ (List.mem_of_getElem? (i := 7) rfl)) <|
  sd_iconst (pc := 4) (kt_tab_get kx_T_tellInfo 2 rfl) kc_i_0 <|
  sd_callV (pc := 5) km_S_has (by decide) kv_S_has (ci := 4) kt_hc4 (by decide) (kt_tab_get kx_T_tellInfo 3 rfl) (kg_T_tellInfo_in _ (List.mem_of_getElem? (i := 8) rfl)) <|
  sd_istore_n (pc := 8) (kt_tab_get kx_T_tellInfo 4 rfl) rfl (by decide) <|
  sd_aload_n (pc := 9) (kt_tab_get kx_T_tellInfo 5 rfl) rfl <|
  sd_get (pc := 10) (k := 0) (ci := 5) kt_hc5 kt_hin5 (by decide) (kt_tab_get kx_T_tellInfo 6 rfl) (kg_T_tellInfo_in _ (List.mem_of_getElem? (i := 7) rfl)) <|
  sd_callV (pc := 13) km_S_erasedPages (by decide) kv_S_erasedPages (ci := 4) kt_hc4 (by decide) (kt_tab_get kx_T_tellInfo 7 rfl) (kg_T_tellInfo_in _ (List.mem_of_getElem? (i := 9) rfl)) <|
  sd_istore_n (pc := 16) (kt_tab_get kx_T_tellInfo 8 rfl) rfl (by decide) <|
  sd_aload_n (pc := 17) (kt_tab_get kx_T_tellInfo 9 rfl) rfl <|
  sd_iconst (pc := 18) (kt_tab_get kx_T_tellInfo 10 rfl) kc_i_3 <|
  sd_callV (pc := 19) km_T_beginAnswer (by decide) kv_T_beginAnswer (ci := 5) kt_hc5 (by decide) (kt_tab_get kx_T_tellInfo 11 rfl) (kg_T_tellInfo_in _ (List.mem_of_getElem? (i := 10) rfl)) <|
  sd_aload_n (pc := 22) (kt_tab_get kx_T_tellInfo 12 rfl) rfl <|
  sd_get (pc := 23) (k := 3) (ci := 5) kt_hc5 kt_hin5 (by decide) (kt_tab_get kx_T_tellInfo 13 rfl) (kg_T_tellInfo_in _ (List.mem_of_getElem? (i := 5) rfl)) <|
  sd_iconst (pc := 26) (kt_tab_get kx_T_tellInfo 14 rfl) kc_i_1 <|
  sd_bipush (pc := 27) (kt_tab_get kx_T_tellInfo 15 rfl) kc_b_7 <|
  sd_iload_n (pc := 29) (kt_tab_get kx_T_tellInfo 16 rfl) rfl <|
  sd_isub (pc := 30) (kt_tab_get kx_T_tellInfo 17 rfl) <|
  sd_iload_n (pc := 31) (kt_tab_get kx_T_tellInfo 18 rfl) rfl <|
  sd_if_eq (pc := 32) (tgt := 39) (kt_tab_get kx_T_tellInfo 19 rfl) rfl kz_T_tellInfo_39 kz_T_tellInfo_35
noncomputable def kf_T_tellInfo : kt_F := kt_run 3 kd_T_tellInfo_0
theorem km_T_tellInfo : kt_M l kt_shC ky_T_tellInfo kb_T_tellInfo 3 (some .int) 3 false kf_T_tellInfo := kt_method (by decide) rfl kz_T_tellInfo_0
noncomputable def kd_T_tellTries_37 : kt_D := ki_callV kt_shC 0 2 kf_B_addPair <| ki_push (.int 0) <| ki_iret
theorem kz_T_tellTries_37 : kt_Snd l kt_shC kb_T_tellTries 2 RX5 (some .int) 3 0 0 false false 37 kd_T_tellTries_37 :=
  sd_callV (pc := 37) km_B_addPair (by decide) kv_B_addPair (ci := 0) kt_hc0 (by decide) (kt_tab_get kx_T_tellTries 20 rfl) (kg_T_tellTries_in _ (List.mem_of_getElem? (i := 4) rfl)) <|
  sd_iconst (pc := 40) (kt_tab_get kx_T_tellTries 21 rfl) kc_i_0 <|
  sd_iret (pc := 41) rfl (by decide) (kt_tab_get kx_T_tellTries 22 rfl)
noncomputable def kd_T_tellTries_28 : kt_D := ki_aload 0 <| ki_get kt_shC 5 0 <| ki_iload 1 <| ki_push (.int 2) <| ki_callV kt_shC 4 2 kf_S_read <| (ki_drop 1 (ki_drop 0 kd_T_tellTries_37))
theorem kz_T_tellTries_28 : kt_Snd l kt_shC kb_T_tellTries 2 RX5 (some .int) 3 0 0 false false 28 kd_T_tellTries_28 :=
  sd_aload_n (pc := 28) (kt_tab_get kx_T_tellTries 15 rfl) rfl <|
  sd_get (pc := 29) (k := 0) (ci := 5) kt_hc5 kt_hin5 (by decide) (kt_tab_get kx_T_tellTries 16 rfl) (kg_T_tellTries_in _ (List.mem_of_getElem? (i := 5) rfl)) <|
  sd_iload_n (pc := 32) (kt_tab_get kx_T_tellTries 17 rfl) rfl <|
  sd_iconst (pc := 33) (kt_tab_get kx_T_tellTries 18 rfl) kc_i_2 <|
  sd_callV (pc := 34) km_S_read (by decide) kv_S_read (ci := 4) kt_hc4 (by decide) (kt_tab_get kx_T_tellTries 19 rfl) (kg_T_tellTries_in _ (List.mem_of_getElem? (i := 6) rfl)) <|
  (sd_drop (k := 1) (sd_drop (k := 0) kz_T_tellTries_37))
noncomputable def kd_T_tellTries_23 : kt_D := ki_push (.int 8) <| kd_T_tellTries_37
theorem kz_T_tellTries_23 : kt_Snd l kt_shC kb_T_tellTries 2 RX5 (some .int) 3 0 0 false false 23 kd_T_tellTries_23 :=
  sd_bipush (pc := 23) (kt_tab_get kx_T_tellTries 13 rfl) kc_b_8 <|
  sd_goto (pc := 25) (tgt := 37) (kt_tab_get kx_T_tellTries 14 rfl) rfl kz_T_tellTries_37
noncomputable def kd_T_tellTries_0 : kt_D := ki_aload 0 <| ki_get kt_shC 5 0 <| ki_push (.int 0) <| ki_callV kt_shC 4 1 kf_S_pageOf <| ki_istore 1 <| ki_aload 0 <| ki_push (.int 1) <| ki_callV kt_shC 5 1 kf_T_beginAnswer <| ki_aload 0 <| ki_get kt_shC 5 3 <| ki_push (.int 1) <| ki_iload 1 <| ki_if_ge kd_T_tellTries_28 (ki_drop 1 (ki_drop 0 kd_T_tellTries_23))
theorem kz_T_tellTries_0 : kt_Snd l kt_shC kb_T_tellTries 2 RX5 (some .int) 3 0 0 false false 0 kd_T_tellTries_0 :=
  sd_aload_n (pc := 0) (kt_tab_get kx_T_tellTries 0 rfl) rfl <|
  sd_get (pc := 1) (k := 0) (ci := 5) kt_hc5 kt_hin5 (by decide) (kt_tab_get kx_T_tellTries 1 rfl) (kg_T_tellTries_in _ (List.mem_of_getElem? (i := 5) rfl)) <|
  sd_iconst (pc := 4) (kt_tab_get kx_T_tellTries 2 rfl) kc_i_0 <|
  sd_callV (pc := 5) km_S_pageOf (by decide) kv_S_pageOf (ci := 4) kt_hc4 (by decide) (kt_tab_get kx_T_tellTries 3 rfl) (kg_T_tellTries_in _ (List.mem_of_getElem? (i := 7) rfl)) <|
  sd_istore_n (pc := 8) (kt_tab_get kx_T_tellTries 4 rfl) rfl (by decide) <|
  sd_aload_n (pc := 9) (kt_tab_get kx_T_tellTries 5 rfl) rfl <|
  sd_iconst (pc := 10) (kt_tab_get kx_T_tellTries 6 rfl) kc_i_1 <|
  sd_callV (pc := 11) km_T_beginAnswer (by decide) kv_T_beginAnswer (ci := 5) kt_hc5 (by decide) (kt_tab_get kx_T_tellTries 7 rfl) (kg_T_tellTries_in _ (List.mem_of_getElem? (i := 8) rfl)) <|
  sd_aload_n (pc := 14) (kt_tab_get kx_T_tellTries 8 rfl) rfl <|
  sd_get (pc := 15) (k := 3) (ci := 5) kt_hc5 kt_hin5 (by decide) (kt_tab_get kx_T_tellTries 9 rfl) (kg_T_tellTries_in _ (List.mem_of_getElem? (i := 9) rfl)) <|
  sd_iconst (pc := 18) (kt_tab_get kx_T_tellTries 10 rfl) kc_i_1 <|
  sd_iload_n (pc := 19) (kt_tab_get kx_T_tellTries 11 rfl) rfl <|
  sd_if_ge (pc := 20) (tgt := 28) (kt_tab_get kx_T_tellTries 12 rfl) rfl kz_T_tellTries_28 (sd_drop (k := 1) (sd_drop (k := 0) kz_T_tellTries_23))
noncomputable def kf_T_tellTries : kt_F := kt_run 2 kd_T_tellTries_0
theorem km_T_tellTries : kt_M l kt_shC ky_T_tellTries kb_T_tellTries 2 (some .int) 3 false kf_T_tellTries := kt_method (by decide) rfl kz_T_tellTries_0
noncomputable def kd_T_setPin_69 : kt_D := ki_push (.int 0) <| ki_iret
theorem kz_T_setPin_69 : kt_Snd l kt_shC kb_T_setPin 1 RX5 (some .int) 3 0 0 false false 69 kd_T_setPin_69 :=
  sd_iconst (pc := 69) (kt_tab_get kx_T_setPin 37 rfl) kc_i_0 <|
  sd_iret (pc := 70) rfl (by decide) (kt_tab_get kx_T_setPin 38 rfl)
noncomputable def kd_T_setPin_67 : kt_D := ki_push (.int (-1)) <| ki_iret
theorem kz_T_setPin_67 : kt_Snd l kt_shC kb_T_setPin 1 RX5 (some .int) 3 0 0 false false 67 kd_T_setPin_67 :=
  sd_iconst (pc := 67) (kt_tab_get kx_T_setPin 35 rfl) kc_i_m1 <|
  sd_iret (pc := 68) rfl (by decide) (kt_tab_get kx_T_setPin 36 rfl)
noncomputable def kd_T_setPin_44 : kt_D := ki_aload 0 <| ki_get kt_shC 5 0 <| ki_push (.int 0) <| ki_aload 0 <| ki_get kt_shC 5 2 <| ki_push (.int 3) <| ki_callV kt_shC 2 1 kf_R_textNumber <| ki_push (.int 8) <| ki_push (.int 0) <| ki_push (.int 0) <| ki_callV kt_shC 4 5 kf_S_put <| ki_if_ne (ki_drop 0 kd_T_setPin_69) (ki_drop 0 kd_T_setPin_67)
theorem kz_T_setPin_44 : kt_Snd l kt_shC kb_T_setPin 1 RX5 (some .int) 3 0 0 false false 44 kd_T_setPin_44 :=
  sd_aload_n (pc := 44) (kt_tab_get kx_T_setPin 23 rfl) rfl <|
  sd_get (pc := 45) (k := 0) (ci := 5) kt_hc5 kt_hin5 (by decide) (kt_tab_get kx_T_setPin 24 rfl) (kg_T_setPin_in _ (List.mem_of_getElem? (i := 4) rfl)) <|
  sd_iconst (pc := 48) (kt_tab_get kx_T_setPin 25 rfl) kc_i_0 <|
  sd_aload_n (pc := 49) (kt_tab_get kx_T_setPin 26 rfl) rfl <|
  sd_get (pc := 50) (k := 2) (ci := 5) kt_hc5 kt_hin5 (by decide) (kt_tab_get kx_T_setPin 27 rfl) (kg_T_setPin_in _ (List.mem_of_getElem? (i := 5) rfl)) <|
  sd_iconst (pc := 53) (kt_tab_get kx_T_setPin 28 rfl) kc_i_3 <|
  sd_callV (pc := 54) km_R_textNumber (by decide) kv_R_textNumber (ci := 2) kt_hc2 (by decide) (kt_tab_get kx_T_setPin 29 rfl) (kg_T_setPin_in _ (List.mem_of_getElem? (i := 6) rfl)) <|
  sd_bipush (pc := 57) (kt_tab_get kx_T_setPin 30 rfl) kc_b_8 <|
  sd_iconst (pc := 59) (kt_tab_get kx_T_setPin 31 rfl) kc_i_0 <|
  sd_iconst (pc := 60) (kt_tab_get kx_T_setPin 32 rfl) kc_i_0 <|
  sd_callV (pc := 61) km_S_put (by decide) kv_S_put (ci := 4) kt_hc4 (by decide) (kt_tab_get kx_T_setPin 33 rfl) (kg_T_setPin_in _ (List.mem_of_getElem? (i := 7) rfl)) <|
  sd_if_ne (pc := 64) (tgt := 69) (kt_tab_get kx_T_setPin 34 rfl) rfl (sd_drop (k := 0) kz_T_setPin_69) (sd_drop (k := 0) kz_T_setPin_67)
noncomputable def kd_T_setPin_41 : kt_D := ki_push (.int 6) <| ki_iret
theorem kz_T_setPin_41 : kt_Snd l kt_shC kb_T_setPin 1 RX5 (some .int) 3 0 0 false false 41 kd_T_setPin_41 :=
  sd_bipush (pc := 41) (kt_tab_get kx_T_setPin 21 rfl) kc_b_6 <|
  sd_iret (pc := 43) rfl (by decide) (kt_tab_get kx_T_setPin 22 rfl)
noncomputable def kd_T_setPin_30 : kt_D := ki_aload 0 <| ki_get kt_shC 5 0 <| ki_push (.int 0) <| ki_callV kt_shC 4 1 kf_S_hasRoomFor <| ki_if_ne kd_T_setPin_44 (ki_drop 0 kd_T_setPin_41)
theorem kz_T_setPin_30 : kt_Snd l kt_shC kb_T_setPin 1 RX5 (some .int) 3 0 0 false false 30 kd_T_setPin_30 :=
  sd_aload_n (pc := 30) (kt_tab_get kx_T_setPin 16 rfl) rfl <|
  sd_get (pc := 31) (k := 0) (ci := 5) kt_hc5 kt_hin5 (by decide) (kt_tab_get kx_T_setPin 17 rfl) (kg_T_setPin_in _ (List.mem_of_getElem? (i := 4) rfl)) <|
  sd_iconst (pc := 34) (kt_tab_get kx_T_setPin 18 rfl) kc_i_0 <|
  sd_callV (pc := 35) km_S_hasRoomFor (by decide) kv_S_hasRoomFor (ci := 4) kt_hc4 (by decide) (kt_tab_get kx_T_setPin 19 rfl) (kg_T_setPin_in _ (List.mem_of_getElem? (i := 8) rfl)) <|
  sd_if_ne (pc := 38) (tgt := 44) (kt_tab_get kx_T_setPin 20 rfl) rfl kz_T_setPin_44 (sd_drop (k := 0) kz_T_setPin_41)
noncomputable def kd_T_setPin_27 : kt_D := ki_push (.int 15) <| ki_iret
theorem kz_T_setPin_27 : kt_Snd l kt_shC kb_T_setPin 1 RX5 (some .int) 3 0 0 false false 27 kd_T_setPin_27 :=
  sd_bipush (pc := 27) (kt_tab_get kx_T_setPin 14 rfl) kc_b_15 <|
  sd_iret (pc := 29) rfl (by decide) (kt_tab_get kx_T_setPin 15 rfl)
noncomputable def kd_T_setPin_13 : kt_D := ki_aload 0 <| ki_get kt_shC 5 2 <| ki_push (.int 3) <| ki_push (.int 4) <| ki_push (.int 8) <| ki_callV kt_shC 2 3 kf_R_textHas <| ki_if_ne kd_T_setPin_30 (ki_drop 0 kd_T_setPin_27)
theorem kz_T_setPin_13 : kt_Snd l kt_shC kb_T_setPin 1 RX5 (some .int) 3 0 0 false false 13 kd_T_setPin_13 :=
  sd_aload_n (pc := 13) (kt_tab_get kx_T_setPin 7 rfl) rfl <|
  sd_get (pc := 14) (k := 2) (ci := 5) kt_hc5 kt_hin5 (by decide) (kt_tab_get kx_T_setPin 8 rfl) (kg_T_setPin_in _ (List.mem_of_getElem? (i := 5) rfl)) <|
  sd_iconst (pc := 17) (kt_tab_get kx_T_setPin 9 rfl) kc_i_3 <|
  sd_iconst (pc := 18) (kt_tab_get kx_T_setPin 10 rfl) kc_i_4 <|
  sd_bipush (pc := 19) (kt_tab_get kx_T_setPin 11 rfl) kc_b_8 <|
  sd_callV (pc := 21) km_R_textHas (by decide) kv_R_textHas (ci := 2) kt_hc2 (by decide) (kt_tab_get kx_T_setPin 12 rfl) (kg_T_setPin_in _ (List.mem_of_getElem? (i := 9) rfl)) <|
  sd_if_ne (pc := 24) (tgt := 30) (kt_tab_get kx_T_setPin 13 rfl) rfl kz_T_setPin_30 (sd_drop (k := 0) kz_T_setPin_27)
noncomputable def kd_T_setPin_11 : kt_D := ki_push (.int 5) <| ki_iret
theorem kz_T_setPin_11 : kt_Snd l kt_shC kb_T_setPin 1 RX5 (some .int) 3 0 0 false false 11 kd_T_setPin_11 :=
  sd_iconst (pc := 11) (kt_tab_get kx_T_setPin 5 rfl) kc_i_5 <|
  sd_iret (pc := 12) rfl (by decide) (kt_tab_get kx_T_setPin 6 rfl)
noncomputable def kd_T_setPin_0 : kt_D := ki_aload 0 <| ki_get kt_shC 5 0 <| ki_push (.int 0) <| ki_callV kt_shC 4 1 kf_S_has <| ki_if_eq kd_T_setPin_13 (ki_drop 0 kd_T_setPin_11)
theorem kz_T_setPin_0 : kt_Snd l kt_shC kb_T_setPin 1 RX5 (some .int) 3 0 0 false false 0 kd_T_setPin_0 :=
  sd_aload_n (pc := 0) (kt_tab_get kx_T_setPin 0 rfl) rfl <|
  sd_get (pc := 1) (k := 0) (ci := 5) kt_hc5 kt_hin5 (by decide) (kt_tab_get kx_T_setPin 1 rfl) (kg_T_setPin_in _ (List.mem_of_getElem? (i := 4) rfl)) <|
  sd_iconst (pc := 4) (kt_tab_get kx_T_setPin 2 rfl) kc_i_0 <|
  sd_callV (pc := 5) km_S_has (by decide) kv_S_has (ci := 4) kt_hc4 (by decide) (kt_tab_get kx_T_setPin 3 rfl) (kg_T_setPin_in _ (List.mem_of_getElem? (i := 10) rfl)) <|
  sd_if_eq (pc := 8) (tgt := 13) (kt_tab_get kx_T_setPin 4 rfl) rfl kz_T_setPin_13 (sd_drop (k := 0) kz_T_setPin_11)
noncomputable def kf_T_setPin : kt_F := kt_run 1 kd_T_setPin_0
theorem km_T_setPin : kt_M l kt_shC ky_T_setPin kb_T_setPin 1 (some .int) 3 false kf_T_setPin := kt_method (by decide) rfl kz_T_setPin_0
noncomputable def kd_T_countWrong_37 : kt_D := ki_iret
theorem kz_T_countWrong_37 : kt_Snd l kt_shC kb_T_countWrong 2 RX5 (some .int) 0 0 0 false false 37 kd_T_countWrong_37 :=
  sd_iret (pc := 37) rfl (by decide) (kt_tab_get kx_T_countWrong 20 rfl)
noncomputable def kd_T_countWrong_35 : kt_D := ki_push (.int 10) <| kd_T_countWrong_37
theorem kz_T_countWrong_35 : kt_Snd l kt_shC kb_T_countWrong 2 RX5 (some .int) 0 0 0 false false 35 kd_T_countWrong_35 :=
  sd_bipush (pc := 35) (kt_tab_get kx_T_countWrong 19 rfl) kc_b_10 <|
  kz_T_countWrong_37
noncomputable def kd_T_countWrong_30 : kt_D := ki_push (.int 12) <| kd_T_countWrong_37
theorem kz_T_countWrong_30 : kt_Snd l kt_shC kb_T_countWrong 2 RX5 (some .int) 0 0 0 false false 30 kd_T_countWrong_30 :=
  sd_bipush (pc := 30) (kt_tab_get kx_T_countWrong 17 rfl) kc_b_12 <|
  sd_goto (pc := 32) (tgt := 37) (kt_tab_get kx_T_countWrong 18 rfl) rfl kz_T_countWrong_37
noncomputable def kd_T_countWrong_22 : kt_D := ki_aload 0 <| ki_get kt_shC 5 7 <| ki_push (.int 3) <| ki_icmp_ne (ki_drop 0 kd_T_countWrong_35) (ki_drop 0 kd_T_countWrong_30)
theorem kz_T_countWrong_22 : kt_Snd l kt_shC kb_T_countWrong 2 RX5 (some .int) 0 0 0 false false 22 kd_T_countWrong_22 :=
  sd_aload_n (pc := 22) (kt_tab_get kx_T_countWrong 13 rfl) rfl <|
  sd_get (pc := 23) (k := 7) (ci := 5) kt_hc5 kt_hin5 (by decide) (kt_tab_get kx_T_countWrong 14 rfl) (kg_T_countWrong_in _ (List.mem_of_getElem? (i := 4) rfl)) <|
  sd_iconst (pc := 26) (kt_tab_get kx_T_countWrong 15 rfl) kc_i_3 <|
  sd_icmp_ne (pc := 27) (tgt := 35) (kt_tab_get kx_T_countWrong 16 rfl) rfl (sd_drop (k := 0) kz_T_countWrong_35) (sd_drop (k := 0) kz_T_countWrong_30)
noncomputable def kd_T_countWrong_19 : kt_D := ki_push (.int 11) <| ki_iret
theorem kz_T_countWrong_19 : kt_Snd l kt_shC kb_T_countWrong 2 RX5 (some .int) 0 0 0 false false 19 kd_T_countWrong_19 :=
  sd_bipush (pc := 19) (kt_tab_get kx_T_countWrong 11 rfl) kc_b_11 <|
  sd_iret (pc := 21) rfl (by decide) (kt_tab_get kx_T_countWrong 12 rfl)
noncomputable def kd_T_countWrong_0 : kt_D := ki_aload 0 <| ki_dup <| ki_get kt_shC 5 7 <| ki_push (.int 1) <| ki_iadd <| ki_put kt_shC 5 7 0 <| ki_aload 0 <| ki_push (.int 0) <| ki_put kt_shC 5 8 0 <| ki_iload 1 <| ki_if_ne (ki_drop 1 kd_T_countWrong_22) (ki_drop 1 (ki_drop 0 kd_T_countWrong_19))
theorem kz_T_countWrong_0 : kt_Snd l kt_shC kb_T_countWrong 2 RX5 (some .int) 0 0 0 false false 0 kd_T_countWrong_0 :=
  sd_aload_n (pc := 0) (kt_tab_get kx_T_countWrong 0 rfl) rfl <|
  sd_dup (pc := 1) (kt_tab_get kx_T_countWrong 1 rfl) <|
  sd_get (pc := 2) (k := 7) (ci := 5) kt_hc5 kt_hin5 (by decide) (kt_tab_get kx_T_countWrong 2 rfl) (kg_T_countWrong_in _ (List.mem_of_getElem? (i := 4) rfl)) <|
  sd_iconst (pc := 5) (kt_tab_get kx_T_countWrong 3 rfl) kc_i_1 <|
  sd_iadd (pc := 6) (kt_tab_get kx_T_countWrong 4 rfl) <|
  sd_put (pc := 7) (k := 7) (ci := 5) kt_hc5 kt_hin5 tyX5_ok nmX5 (by decide) rfl rfl (Or.inl ⟨rfl, rfl⟩) (kt_tab_get kx_T_countWrong 5 rfl) (kg_T_countWrong_in _ (List.mem_of_getElem? (i := 4) rfl)) <|
  sd_aload_n (pc := 10) (kt_tab_get kx_T_countWrong 6 rfl) rfl <|
  sd_iconst (pc := 11) (kt_tab_get kx_T_countWrong 7 rfl) kc_i_0 <|
  sd_put (pc := 12) (k := 8) (ci := 5) kt_hc5 kt_hin5 tyX5_ok nmX5 (by decide) rfl rfl (Or.inl ⟨rfl, rfl⟩) (kt_tab_get kx_T_countWrong 8 rfl) (kg_T_countWrong_in _ (List.mem_of_getElem? (i := 5) rfl)) <|
  sd_iload_n (pc := 15) (kt_tab_get kx_T_countWrong 9 rfl) rfl <|
  sd_if_ne (pc := 16) (tgt := 22) (kt_tab_get kx_T_countWrong 10 rfl) rfl (sd_drop (k := 1) kz_T_countWrong_22) (sd_drop (k := 1) (sd_drop (k := 0) kz_T_countWrong_19))
noncomputable def kf_T_countWrong : kt_F := kt_run 2 kd_T_countWrong_0
theorem km_T_countWrong : kt_M l kt_shC ky_T_countWrong kb_T_countWrong 2 (some .int) 0 false kf_T_countWrong := kt_method (by decide) rfl kz_T_countWrong_0
noncomputable def kd_T_provePin_171 : kt_D := ki_aload 0 <| ki_dup <| ki_get kt_shC 5 14 <| ki_push (.int 1) <| ki_iadd <| ki_put kt_shC 5 14 0 <| ki_aload 0 <| ki_aload 0 <| ki_get kt_shC 5 14 <| ki_put kt_shC 5 8 0 <| ki_aload 0 <| ki_push (.int 1) <| ki_callV kt_shC 5 1 kf_T_beginAnswer <| ki_aload 0 <| ki_get kt_shC 5 3 <| ki_push (.int 1) <| ki_aload 0 <| ki_get kt_shC 5 8 <| ki_callV kt_shC 0 2 kf_B_addPair <| ki_push (.int 0) <| ki_iret
theorem kz_T_provePin_171 : kt_Snd l kt_shC kb_T_provePin 6 RX5 (some .int) 3 0 0 false false 171 kd_T_provePin_171 :=
  sd_aload_n (pc := 171) (kt_tab_get kx_T_provePin 97 rfl) rfl <|
  sd_dup (pc := 172) (kt_tab_get kx_T_provePin 98 rfl) <|
  sd_get (pc := 173) (k := 14) (ci := 5) kt_hc5 kt_hin5 (by decide) (kt_tab_get kx_T_provePin 99 rfl) (kg_T_provePin_in _ (List.mem_of_getElem? (i := 4) rfl)) <|
  sd_iconst (pc := 176) (kt_tab_get kx_T_provePin 100 rfl) kc_i_1 <|
  sd_iadd (pc := 177) (kt_tab_get kx_T_provePin 101 rfl) <|
  sd_put (pc := 178) (k := 14) (ci := 5) kt_hc5 kt_hin5 tyX5_ok nmX5 (by decide) rfl rfl (Or.inl ⟨rfl, rfl⟩) (kt_tab_get kx_T_provePin 102 rfl) (kg_T_provePin_in _ (List.mem_of_getElem? (i := 4) rfl)) <|
  sd_aload_n (pc := 181) (kt_tab_get kx_T_provePin 103 rfl) rfl <|
  sd_aload_n (pc := 182) (kt_tab_get kx_T_provePin 104 rfl) rfl <|
  sd_get (pc := 183) (k := 14) (ci := 5) kt_hc5 kt_hin5 (by decide) (kt_tab_get kx_T_provePin 105 rfl) (kg_T_provePin_in _ (List.mem_of_getElem? (i := 4) rfl)) <|
  sd_put (pc := 186) (k := 8) (ci := 5) kt_hc5 kt_hin5 tyX5_ok nmX5 (by decide) rfl rfl (Or.inl ⟨rfl, rfl⟩) (kt_tab_get kx_T_provePin 106 rfl) (kg_T_provePin_in _ (List.mem_of_getElem? (i := 5) rfl)) <|
  sd_aload_n (pc := 189) (kt_tab_get kx_T_provePin 107 rfl) rfl <|
  sd_iconst (pc := 190) (kt_tab_get kx_T_provePin 108 rfl) kc_i_1 <|
  sd_callV (pc := 191) km_T_beginAnswer (by decide) kv_T_beginAnswer (ci := 5) kt_hc5 (by decide) (kt_tab_get kx_T_provePin 109 rfl) (kg_T_provePin_in _ (List.mem_of_getElem? (i := 6) rfl)) <|
  sd_aload_n (pc := 194) (kt_tab_get kx_T_provePin 110 rfl) rfl <|
  sd_get (pc := 195) (k := 3) (ci := 5) kt_hc5 kt_hin5 (by decide) (kt_tab_get kx_T_provePin 111 rfl) (kg_T_provePin_in _ (List.mem_of_getElem? (i := 7) rfl)) <|
  sd_iconst (pc := 198) (kt_tab_get kx_T_provePin 112 rfl) kc_i_1 <|
  sd_aload_n (pc := 199) (kt_tab_get kx_T_provePin 113 rfl) rfl <|
  sd_get (pc := 200) (k := 8) (ci := 5) kt_hc5 kt_hin5 (by decide) (kt_tab_get kx_T_provePin 114 rfl) (kg_T_provePin_in _ (List.mem_of_getElem? (i := 5) rfl)) <|
  sd_callV (pc := 203) km_B_addPair (by decide) kv_B_addPair (ci := 0) kt_hc0 (by decide) (kt_tab_get kx_T_provePin 115 rfl) (kg_T_provePin_in _ (List.mem_of_getElem? (i := 8) rfl)) <|
  sd_iconst (pc := 206) (kt_tab_get kx_T_provePin 116 rfl) kc_i_0 <|
  sd_iret (pc := 207) rfl (by decide) (kt_tab_get kx_T_provePin 117 rfl)
noncomputable def kd_T_provePin_164 : kt_D := ki_aload 0 <| ki_push (.int 0) <| ki_put kt_shC 5 8 0 <| ki_push (.int 0) <| ki_iret
theorem kz_T_provePin_164 : kt_Snd l kt_shC kb_T_provePin 6 RX5 (some .int) 3 0 0 false false 164 kd_T_provePin_164 :=
  sd_aload_n (pc := 164) (kt_tab_get kx_T_provePin 92 rfl) rfl <|
  sd_iconst (pc := 165) (kt_tab_get kx_T_provePin 93 rfl) kc_i_0 <|
  sd_put (pc := 166) (k := 8) (ci := 5) kt_hc5 kt_hin5 tyX5_ok nmX5 (by decide) rfl rfl (Or.inl ⟨rfl, rfl⟩) (kt_tab_get kx_T_provePin 94 rfl) (kg_T_provePin_in _ (List.mem_of_getElem? (i := 5) rfl)) <|
  sd_iconst (pc := 169) (kt_tab_get kx_T_provePin 95 rfl) kc_i_0 <|
  sd_iret (pc := 170) rfl (by decide) (kt_tab_get kx_T_provePin 96 rfl)
noncomputable def kd_T_provePin_160 : kt_D := ki_iload 1 <| ki_if_eq (ki_drop 1 kd_T_provePin_171) (ki_drop 1 kd_T_provePin_164)
theorem kz_T_provePin_160 : kt_Snd l kt_shC kb_T_provePin 6 RX5 (some .int) 3 0 0 false false 160 kd_T_provePin_160 :=
  sd_iload_n (pc := 160) (kt_tab_get kx_T_provePin 90 rfl) rfl <|
  sd_if_eq (pc := 161) (tgt := 171) (kt_tab_get kx_T_provePin 91 rfl) rfl (sd_drop (k := 1) kz_T_provePin_171) (sd_drop (k := 1) kz_T_provePin_164)
noncomputable def kd_T_provePin_158 : kt_D := ki_push (.int (-1)) <| ki_iret
theorem kz_T_provePin_158 : kt_Snd l kt_shC kb_T_provePin 6 RX5 (some .int) 3 0 0 false false 158 kd_T_provePin_158 :=
  sd_iconst (pc := 158) (kt_tab_get kx_T_provePin 88 rfl) kc_i_m1 <|
  sd_iret (pc := 159) rfl (by decide) (kt_tab_get kx_T_provePin 89 rfl)
noncomputable def kd_T_provePin_139 : kt_D := ki_istore 5 <| ki_aload 0 <| ki_get kt_shC 5 0 <| ki_push (.int 0) <| ki_iload 5 <| ki_push (.int 8) <| ki_push (.int 0) <| ki_push (.int 0) <| ki_callV kt_shC 4 5 kf_S_put <| ki_if_ne (ki_drop 5 kd_T_provePin_160) (ki_drop 5 (ki_drop 1 (ki_drop 0 kd_T_provePin_158)))
theorem kz_T_provePin_139 : kt_Snd l kt_shC kb_T_provePin 6 RX5 (some .int) 3 0 0 false false 139 kd_T_provePin_139 :=
  sd_istore (pc := 139) (kt_tab_get kx_T_provePin 78 rfl) (by decide) <|
  sd_aload_n (pc := 141) (kt_tab_get kx_T_provePin 79 rfl) rfl <|
  sd_get (pc := 142) (k := 0) (ci := 5) kt_hc5 kt_hin5 (by decide) (kt_tab_get kx_T_provePin 80 rfl) (kg_T_provePin_in _ (List.mem_of_getElem? (i := 9) rfl)) <|
  sd_iconst (pc := 145) (kt_tab_get kx_T_provePin 81 rfl) kc_i_0 <|
  sd_iload (pc := 146) (kt_tab_get kx_T_provePin 82 rfl) <|
  sd_bipush (pc := 148) (kt_tab_get kx_T_provePin 83 rfl) kc_b_8 <|
  sd_iconst (pc := 150) (kt_tab_get kx_T_provePin 84 rfl) kc_i_0 <|
  sd_iconst (pc := 151) (kt_tab_get kx_T_provePin 85 rfl) kc_i_0 <|
  sd_callV (pc := 152) km_S_put (by decide) kv_S_put (ci := 4) kt_hc4 (by decide) (kt_tab_get kx_T_provePin 86 rfl) (kg_T_provePin_in _ (List.mem_of_getElem? (i := 10) rfl)) <|
  sd_if_ne (pc := 155) (tgt := 160) (kt_tab_get kx_T_provePin 87 rfl) rfl (sd_drop (k := 5) kz_T_provePin_160) (sd_drop (k := 5) (sd_drop (k := 1) (sd_drop (k := 0) kz_T_provePin_158)))
noncomputable def kd_T_provePin_138 : kt_D := ki_iload 3 <| (ki_drop 3 kd_T_provePin_139)
theorem kz_T_provePin_138 : kt_Snd l kt_shC kb_T_provePin 6 RX5 (some .int) 3 0 0 false false 138 kd_T_provePin_138 :=
  sd_iload_n (pc := 138) (kt_tab_get kx_T_provePin 77 rfl) rfl <|
  (sd_drop (k := 3) kz_T_provePin_139)
noncomputable def kd_T_provePin_127 : kt_D := ki_aload 0 <| ki_get kt_shC 5 2 <| ki_push (.int 3) <| ki_callV kt_shC 2 1 kf_R_textNumber <| kd_T_provePin_139
theorem kz_T_provePin_127 : kt_Snd l kt_shC kb_T_provePin 6 RX5 (some .int) 3 0 0 false false 127 kd_T_provePin_127 :=
  sd_aload_n (pc := 127) (kt_tab_get kx_T_provePin 72 rfl) rfl <|
  sd_get (pc := 128) (k := 2) (ci := 5) kt_hc5 kt_hin5 (by decide) (kt_tab_get kx_T_provePin 73 rfl) (kg_T_provePin_in _ (List.mem_of_getElem? (i := 11) rfl)) <|
  sd_iconst (pc := 131) (kt_tab_get kx_T_provePin 74 rfl) kc_i_3 <|
  sd_callV (pc := 132) km_R_textNumber (by decide) kv_R_textNumber (ci := 2) kt_hc2 (by decide) (kt_tab_get kx_T_provePin 75 rfl) (kg_T_provePin_in _ (List.mem_of_getElem? (i := 12) rfl)) <|
  sd_goto (pc := 135) (tgt := 139) (kt_tab_get kx_T_provePin 76 rfl) rfl kz_T_provePin_139
noncomputable def kd_T_provePin_118 : kt_D := ki_aload 0 <| ki_push (.int 0) <| ki_put kt_shC 5 7 0 <| ki_iload 1 <| ki_if_eq kd_T_provePin_138 (ki_drop 3 kd_T_provePin_127)
theorem kz_T_provePin_118 : kt_Snd l kt_shC kb_T_provePin 6 RX5 (some .int) 3 0 0 false false 118 kd_T_provePin_118 :=
  sd_aload_n (pc := 118) (kt_tab_get kx_T_provePin 67 rfl) rfl <|
  sd_iconst (pc := 119) (kt_tab_get kx_T_provePin 68 rfl) kc_i_0 <|
  sd_put (pc := 120) (k := 7) (ci := 5) kt_hc5 kt_hin5 tyX5_ok nmX5 (by decide) rfl rfl (Or.inl ⟨rfl, rfl⟩) (kt_tab_get kx_T_provePin 69 rfl) (kg_T_provePin_in _ (List.mem_of_getElem? (i := 13) rfl)) <|
  sd_iload_n (pc := 123) (kt_tab_get kx_T_provePin 70 rfl) rfl <|
  sd_if_eq (pc := 124) (tgt := 138) (kt_tab_get kx_T_provePin 71 rfl) rfl kz_T_provePin_138 (sd_drop (k := 3) kz_T_provePin_127)
noncomputable def kd_T_provePin_109 : kt_D := ki_aload 0 <| ki_iload 4 <| ki_push (.int 1) <| ki_isub <| ki_callV kt_shC 5 1 kf_T_countWrong <| ki_iret
theorem kz_T_provePin_109 : kt_Snd l kt_shC kb_T_provePin 6 RX5 (some .int) 3 0 0 false false 109 kd_T_provePin_109 :=
  sd_aload_n (pc := 109) (kt_tab_get kx_T_provePin 61 rfl) rfl <|
  sd_iload (pc := 110) (kt_tab_get kx_T_provePin 62 rfl) <|
  sd_iconst (pc := 112) (kt_tab_get kx_T_provePin 63 rfl) kc_i_1 <|
  sd_isub (pc := 113) (kt_tab_get kx_T_provePin 64 rfl) <|
  sd_callV (pc := 114) km_T_countWrong (by decide) kv_T_countWrong (ci := 5) kt_hc5 (by decide) (kt_tab_get kx_T_provePin 65 rfl) (kg_T_provePin_in _ (List.mem_of_getElem? (i := 14) rfl)) <|
  sd_iret (pc := 117) rfl (by decide) (kt_tab_get kx_T_provePin 66 rfl)
noncomputable def kd_T_provePin_97 : kt_D := ki_aload 0 <| ki_get kt_shC 5 2 <| ki_push (.int 2) <| ki_callV kt_shC 2 1 kf_R_textNumber <| ki_iload 3 <| ki_icmp_eq (ki_drop 4 kd_T_provePin_118) (ki_drop 3 (ki_drop 1 kd_T_provePin_109))
theorem kz_T_provePin_97 : kt_Snd l kt_shC kb_T_provePin 6 RX5 (some .int) 3 0 0 false false 97 kd_T_provePin_97 :=
  sd_aload_n (pc := 97) (kt_tab_get kx_T_provePin 55 rfl) rfl <|
  sd_get (pc := 98) (k := 2) (ci := 5) kt_hc5 kt_hin5 (by decide) (kt_tab_get kx_T_provePin 56 rfl) (kg_T_provePin_in _ (List.mem_of_getElem? (i := 11) rfl)) <|
  sd_iconst (pc := 101) (kt_tab_get kx_T_provePin 57 rfl) kc_i_2 <|
  sd_callV (pc := 102) km_R_textNumber (by decide) kv_R_textNumber (ci := 2) kt_hc2 (by decide) (kt_tab_get kx_T_provePin 58 rfl) (kg_T_provePin_in _ (List.mem_of_getElem? (i := 12) rfl)) <|
  sd_iload_n (pc := 105) (kt_tab_get kx_T_provePin 59 rfl) rfl <|
  sd_icmp_eq (pc := 106) (tgt := 118) (kt_tab_get kx_T_provePin 60 rfl) rfl (sd_drop (k := 4) kz_T_provePin_118) (sd_drop (k := 3) (sd_drop (k := 1) kz_T_provePin_109))
noncomputable def kd_T_provePin_95 : kt_D := ki_push (.int (-1)) <| ki_iret
theorem kz_T_provePin_95 : kt_Snd l kt_shC kb_T_provePin 6 RX5 (some .int) 3 0 0 false false 95 kd_T_provePin_95 :=
  sd_iconst (pc := 95) (kt_tab_get kx_T_provePin 53 rfl) kc_i_m1 <|
  sd_iret (pc := 96) rfl (by decide) (kt_tab_get kx_T_provePin 54 rfl)
noncomputable def kd_T_provePin_77 : kt_D := ki_aload 0 <| ki_get kt_shC 5 0 <| ki_push (.int 0) <| ki_iload 3 <| ki_iload 4 <| ki_push (.int 1) <| ki_isub <| ki_push (.int 0) <| ki_push (.int 0) <| ki_callV kt_shC 4 5 kf_S_put <| ki_if_ne kd_T_provePin_97 (ki_drop 4 (ki_drop 3 (ki_drop 1 (ki_drop 0 kd_T_provePin_95))))
theorem kz_T_provePin_77 : kt_Snd l kt_shC kb_T_provePin 6 RX5 (some .int) 3 0 0 false false 77 kd_T_provePin_77 :=
  sd_aload_n (pc := 77) (kt_tab_get kx_T_provePin 42 rfl) rfl <|
  sd_get (pc := 78) (k := 0) (ci := 5) kt_hc5 kt_hin5 (by decide) (kt_tab_get kx_T_provePin 43 rfl) (kg_T_provePin_in _ (List.mem_of_getElem? (i := 9) rfl)) <|
  sd_iconst (pc := 81) (kt_tab_get kx_T_provePin 44 rfl) kc_i_0 <|
  sd_iload_n (pc := 82) (kt_tab_get kx_T_provePin 45 rfl) rfl <|
  sd_iload (pc := 83) (kt_tab_get kx_T_provePin 46 rfl) <|
  sd_iconst (pc := 85) (kt_tab_get kx_T_provePin 47 rfl) kc_i_1 <|
  sd_isub (pc := 86) (kt_tab_get kx_T_provePin 48 rfl) <|
  sd_iconst (pc := 87) (kt_tab_get kx_T_provePin 49 rfl) kc_i_0 <|
  sd_iconst (pc := 88) (kt_tab_get kx_T_provePin 50 rfl) kc_i_0 <|
  sd_callV (pc := 89) km_S_put (by decide) kv_S_put (ci := 4) kt_hc4 (by decide) (kt_tab_get kx_T_provePin 51 rfl) (kg_T_provePin_in _ (List.mem_of_getElem? (i := 10) rfl)) <|
  sd_if_ne (pc := 92) (tgt := 97) (kt_tab_get kx_T_provePin 52 rfl) rfl kz_T_provePin_97 (sd_drop (k := 4) (sd_drop (k := 3) (sd_drop (k := 1) (sd_drop (k := 0) kz_T_provePin_95))))
noncomputable def kd_T_provePin_74 : kt_D := ki_push (.int 15) <| ki_iret
theorem kz_T_provePin_74 : kt_Snd l kt_shC kb_T_provePin 6 RX5 (some .int) 3 0 0 false false 74 kd_T_provePin_74 :=
  sd_bipush (pc := 74) (kt_tab_get kx_T_provePin 40 rfl) kc_b_15 <|
  sd_iret (pc := 76) rfl (by decide) (kt_tab_get kx_T_provePin 41 rfl)
noncomputable def kd_T_provePin_60 : kt_D := ki_aload 0 <| ki_get kt_shC 5 2 <| ki_push (.int 3) <| ki_push (.int 4) <| ki_push (.int 8) <| ki_callV kt_shC 2 3 kf_R_textHas <| ki_if_ne kd_T_provePin_77 (ki_drop 4 (ki_drop 3 (ki_drop 1 (ki_drop 0 kd_T_provePin_74))))
theorem kz_T_provePin_60 : kt_Snd l kt_shC kb_T_provePin 6 RX5 (some .int) 3 0 0 false false 60 kd_T_provePin_60 :=
  sd_aload_n (pc := 60) (kt_tab_get kx_T_provePin 33 rfl) rfl <|
  sd_get (pc := 61) (k := 2) (ci := 5) kt_hc5 kt_hin5 (by decide) (kt_tab_get kx_T_provePin 34 rfl) (kg_T_provePin_in _ (List.mem_of_getElem? (i := 11) rfl)) <|
  sd_iconst (pc := 64) (kt_tab_get kx_T_provePin 35 rfl) kc_i_3 <|
  sd_iconst (pc := 65) (kt_tab_get kx_T_provePin 36 rfl) kc_i_4 <|
  sd_bipush (pc := 66) (kt_tab_get kx_T_provePin 37 rfl) kc_b_8 <|
  sd_callV (pc := 68) km_R_textHas (by decide) kv_R_textHas (ci := 2) kt_hc2 (by decide) (kt_tab_get kx_T_provePin 38 rfl) (kg_T_provePin_in _ (List.mem_of_getElem? (i := 15) rfl)) <|
  sd_if_ne (pc := 71) (tgt := 77) (kt_tab_get kx_T_provePin 39 rfl) rfl kz_T_provePin_77 (sd_drop (k := 4) (sd_drop (k := 3) (sd_drop (k := 1) (sd_drop (k := 0) kz_T_provePin_74))))
noncomputable def kd_T_provePin_56 : kt_D := ki_iload 1 <| ki_if_eq kd_T_provePin_77 kd_T_provePin_60
theorem kz_T_provePin_56 : kt_Snd l kt_shC kb_T_provePin 6 RX5 (some .int) 3 0 0 false false 56 kd_T_provePin_56 :=
  sd_iload_n (pc := 56) (kt_tab_get kx_T_provePin 31 rfl) rfl <|
  sd_if_eq (pc := 57) (tgt := 77) (kt_tab_get kx_T_provePin 32 rfl) rfl kz_T_provePin_77 kz_T_provePin_60
noncomputable def kd_T_provePin_53 : kt_D := ki_push (.int 12) <| ki_iret
theorem kz_T_provePin_53 : kt_Snd l kt_shC kb_T_provePin 6 RX5 (some .int) 3 0 0 false false 53 kd_T_provePin_53 :=
  sd_bipush (pc := 53) (kt_tab_get kx_T_provePin 29 rfl) kc_b_12 <|
  sd_iret (pc := 55) rfl (by decide) (kt_tab_get kx_T_provePin 30 rfl)
noncomputable def kd_T_provePin_45 : kt_D := ki_aload 0 <| ki_get kt_shC 5 7 <| ki_push (.int 3) <| ki_icmp_ne kd_T_provePin_56 (ki_drop 4 (ki_drop 3 (ki_drop 1 (ki_drop 0 kd_T_provePin_53))))
theorem kz_T_provePin_45 : kt_Snd l kt_shC kb_T_provePin 6 RX5 (some .int) 3 0 0 false false 45 kd_T_provePin_45 :=
  sd_aload_n (pc := 45) (kt_tab_get kx_T_provePin 25 rfl) rfl <|
  sd_get (pc := 46) (k := 7) (ci := 5) kt_hc5 kt_hin5 (by decide) (kt_tab_get kx_T_provePin 26 rfl) (kg_T_provePin_in _ (List.mem_of_getElem? (i := 13) rfl)) <|
  sd_iconst (pc := 49) (kt_tab_get kx_T_provePin 27 rfl) kc_i_3 <|
  sd_icmp_ne (pc := 50) (tgt := 56) (kt_tab_get kx_T_provePin 28 rfl) rfl kz_T_provePin_56 (sd_drop (k := 4) (sd_drop (k := 3) (sd_drop (k := 1) (sd_drop (k := 0) kz_T_provePin_53))))
noncomputable def kd_T_provePin_42 : kt_D := ki_push (.int 11) <| ki_iret
theorem kz_T_provePin_42 : kt_Snd l kt_shC kb_T_provePin 6 RX5 (some .int) 3 0 0 false false 42 kd_T_provePin_42 :=
  sd_bipush (pc := 42) (kt_tab_get kx_T_provePin 23 rfl) kc_b_11 <|
  sd_iret (pc := 44) rfl (by decide) (kt_tab_get kx_T_provePin 24 rfl)
noncomputable def kd_T_provePin_16 : kt_D := ki_aload 0 <| ki_get kt_shC 5 0 <| ki_iload 2 <| ki_push (.int 1) <| ki_callV kt_shC 4 2 kf_S_read <| ki_istore 3 <| ki_aload 0 <| ki_get kt_shC 5 0 <| ki_iload 2 <| ki_push (.int 2) <| ki_callV kt_shC 4 2 kf_S_read <| ki_istore 4 <| ki_iload 4 <| ki_if_ne (ki_drop 2 kd_T_provePin_45) (ki_drop 4 (ki_drop 3 (ki_drop 2 (ki_drop 1 (ki_drop 0 kd_T_provePin_42)))))
theorem kz_T_provePin_16 : kt_Snd l kt_shC kb_T_provePin 6 RX5 (some .int) 3 0 0 false false 16 kd_T_provePin_16 :=
  sd_aload_n (pc := 16) (kt_tab_get kx_T_provePin 9 rfl) rfl <|
  sd_get (pc := 17) (k := 0) (ci := 5) kt_hc5 kt_hin5 (by decide) (kt_tab_get kx_T_provePin 10 rfl) (kg_T_provePin_in _ (List.mem_of_getElem? (i := 9) rfl)) <|
  sd_iload_n (pc := 20) (kt_tab_get kx_T_provePin 11 rfl) rfl <|
  sd_iconst (pc := 21) (kt_tab_get kx_T_provePin 12 rfl) kc_i_1 <|
  sd_callV (pc := 22) km_S_read (by decide) kv_S_read (ci := 4) kt_hc4 (by decide) (kt_tab_get kx_T_provePin 13 rfl) (kg_T_provePin_in _ (List.mem_of_getElem? (i := 16) rfl)) <|
  sd_istore_n (pc := 25) (kt_tab_get kx_T_provePin 14 rfl) rfl (by decide) <|
  sd_aload_n (pc := 26) (kt_tab_get kx_T_provePin 15 rfl) rfl <|
  sd_get (pc := 27) (k := 0) (ci := 5) kt_hc5 kt_hin5 (by decide) (kt_tab_get kx_T_provePin 16 rfl) (kg_T_provePin_in _ (List.mem_of_getElem? (i := 9) rfl)) <|
  sd_iload_n (pc := 30) (kt_tab_get kx_T_provePin 17 rfl) rfl <|
  sd_iconst (pc := 31) (kt_tab_get kx_T_provePin 18 rfl) kc_i_2 <|
  sd_callV (pc := 32) km_S_read (by decide) kv_S_read (ci := 4) kt_hc4 (by decide) (kt_tab_get kx_T_provePin 19 rfl) (kg_T_provePin_in _ (List.mem_of_getElem? (i := 16) rfl)) <|
  sd_istore (pc := 35) (kt_tab_get kx_T_provePin 20 rfl) (by decide) <|
  sd_iload (pc := 37) (kt_tab_get kx_T_provePin 21 rfl) <|
  sd_if_ne (pc := 39) (tgt := 45) (kt_tab_get kx_T_provePin 22 rfl) rfl (sd_drop (k := 2) kz_T_provePin_45) (sd_drop (k := 4) (sd_drop (k := 3) (sd_drop (k := 2) (sd_drop (k := 1) (sd_drop (k := 0) kz_T_provePin_42)))))
noncomputable def kd_T_provePin_13 : kt_D := ki_push (.int 13) <| ki_iret
theorem kz_T_provePin_13 : kt_Snd l kt_shC kb_T_provePin 6 RX5 (some .int) 3 0 0 false false 13 kd_T_provePin_13 :=
  sd_bipush (pc := 13) (kt_tab_get kx_T_provePin 7 rfl) kc_b_13 <|
  sd_iret (pc := 15) rfl (by decide) (kt_tab_get kx_T_provePin 8 rfl)
noncomputable def kd_T_provePin_0 : kt_D := ki_aload 0 <| ki_get kt_shC 5 0 <| ki_push (.int 0) <| ki_callV kt_shC 4 1 kf_S_pageOf <| ki_istore 2 <| ki_iload 2 <| ki_if_ge kd_T_provePin_16 (ki_drop 2 (ki_drop 1 (ki_drop 0 kd_T_provePin_13)))
theorem kz_T_provePin_0 : kt_Snd l kt_shC kb_T_provePin 6 RX5 (some .int) 3 0 0 false false 0 kd_T_provePin_0 :=
  sd_aload_n (pc := 0) (kt_tab_get kx_T_provePin 0 rfl) rfl <|
  sd_get (pc := 1) (k := 0) (ci := 5) kt_hc5 kt_hin5 (by decide) (kt_tab_get kx_T_provePin 1 rfl) (kg_T_provePin_in _ (List.mem_of_getElem? (i := 9) rfl)) <|
  sd_iconst (pc := 4) (kt_tab_get kx_T_provePin 2 rfl) kc_i_0 <|
  sd_callV (pc := 5) km_S_pageOf (by decide) kv_S_pageOf (ci := 4) kt_hc4 (by decide) (kt_tab_get kx_T_provePin 3 rfl) (kg_T_provePin_in _ (List.mem_of_getElem? (i := 17) rfl)) <|
  sd_istore_n (pc := 8) (kt_tab_get kx_T_provePin 4 rfl) rfl (by decide) <|
  sd_iload_n (pc := 9) (kt_tab_get kx_T_provePin 5 rfl) rfl <|
  sd_if_ge (pc := 10) (tgt := 16) (kt_tab_get kx_T_provePin 6 rfl) rfl kz_T_provePin_16 (sd_drop (k := 2) (sd_drop (k := 1) (sd_drop (k := 0) kz_T_provePin_13)))
noncomputable def kf_T_provePin : kt_F := kt_run 6 kd_T_provePin_0
theorem km_T_provePin : kt_M l kt_shC ky_T_provePin kb_T_provePin 6 (some .int) 3 false kf_T_provePin := kt_method (by decide) rfl kz_T_provePin_0
noncomputable def kd_T_doPin_60 : kt_D := ki_aload 0 <| ki_callV kt_shC 5 0 kf_T_tellTries <| ki_iret
theorem kz_T_doPin_60 : kt_Snd l kt_shC kb_T_doPin 3 RX5 (some .int) 4 0 0 false false 60 kd_T_doPin_60 :=
  sd_aload_n (pc := 60) (kt_tab_get kx_T_doPin 15 rfl) rfl <|
  sd_callV (pc := 61) km_T_tellTries (by decide) kv_T_tellTries (ci := 5) kt_hc5 (by decide) (kt_tab_get kx_T_doPin 16 rfl) (kg_T_doPin_in _ (List.mem_of_getElem? (i := 4) rfl)) <|
  sd_iret (pc := 64) rfl (by decide) (kt_tab_get kx_T_doPin 17 rfl)
noncomputable def kd_T_doPin_65 : kt_D := ki_aload 0 <| ki_callV kt_shC 5 0 kf_T_setPin <| ki_iret
theorem kz_T_doPin_65 : kt_Snd l kt_shC kb_T_doPin 3 RX5 (some .int) 4 0 0 false false 65 kd_T_doPin_65 :=
  sd_aload_n (pc := 65) (kt_tab_get kx_T_doPin 18 rfl) rfl <|
  sd_callV (pc := 66) km_T_setPin (by decide) kv_T_setPin (ci := 5) kt_hc5 (by decide) (kt_tab_get kx_T_doPin 19 rfl) (kg_T_doPin_in _ (List.mem_of_getElem? (i := 5) rfl)) <|
  sd_iret (pc := 69) rfl (by decide) (kt_tab_get kx_T_doPin 20 rfl)
noncomputable def kd_T_doPin_81 : kt_D := ki_callV kt_shC 5 1 kf_T_provePin <| ki_iret
theorem kz_T_doPin_81 : kt_Snd l kt_shC kb_T_doPin 3 RX5 (some .int) 4 0 0 false false 81 kd_T_doPin_81 :=
  sd_callV (pc := 81) km_T_provePin (by decide) kv_T_provePin (ci := 5) kt_hc5 (by decide) (kt_tab_get kx_T_doPin 28 rfl) (kg_T_doPin_in _ (List.mem_of_getElem? (i := 6) rfl)) <|
  sd_iret (pc := 84) rfl (by decide) (kt_tab_get kx_T_doPin 29 rfl)
noncomputable def kd_T_doPin_80 : kt_D := ki_push (.int 0) <| kd_T_doPin_81
theorem kz_T_doPin_80 : kt_Snd l kt_shC kb_T_doPin 3 RX5 (some .int) 4 0 0 false false 80 kd_T_doPin_80 :=
  sd_iconst (pc := 80) (kt_tab_get kx_T_doPin 27 rfl) kc_i_0 <|
  kz_T_doPin_81
noncomputable def kd_T_doPin_76 : kt_D := ki_push (.int 1) <| kd_T_doPin_81
theorem kz_T_doPin_76 : kt_Snd l kt_shC kb_T_doPin 3 RX5 (some .int) 4 0 0 false false 76 kd_T_doPin_76 :=
  sd_iconst (pc := 76) (kt_tab_get kx_T_doPin 25 rfl) kc_i_1 <|
  sd_goto (pc := 77) (tgt := 81) (kt_tab_get kx_T_doPin 26 rfl) rfl kz_T_doPin_81
noncomputable def kd_T_doPin_70 : kt_D := ki_aload 0 <| ki_iload 2 <| ki_push (.int 4) <| ki_icmp_ne (ki_drop 2 (ki_drop 0 kd_T_doPin_80)) (ki_drop 2 (ki_drop 0 kd_T_doPin_76))
theorem kz_T_doPin_70 : kt_Snd l kt_shC kb_T_doPin 3 RX5 (some .int) 4 0 0 false false 70 kd_T_doPin_70 :=
  sd_aload_n (pc := 70) (kt_tab_get kx_T_doPin 21 rfl) rfl <|
  sd_iload_n (pc := 71) (kt_tab_get kx_T_doPin 22 rfl) rfl <|
  sd_iconst (pc := 72) (kt_tab_get kx_T_doPin 23 rfl) kc_i_4 <|
  sd_icmp_ne (pc := 73) (tgt := 80) (kt_tab_get kx_T_doPin 24 rfl) rfl (sd_drop (k := 2) (sd_drop (k := 0) kz_T_doPin_80)) (sd_drop (k := 2) (sd_drop (k := 0) kz_T_doPin_76))
noncomputable def kd_T_doPin_85 : kt_D := ki_push (.int 5) <| ki_iret
theorem kz_T_doPin_85 : kt_Snd l kt_shC kb_T_doPin 3 RX5 (some .int) 4 0 0 false false 85 kd_T_doPin_85 :=
  sd_iconst (pc := 85) (kt_tab_get kx_T_doPin 30 rfl) kc_i_5 <|
  sd_iret (pc := 86) rfl (by decide) (kt_tab_get kx_T_doPin 31 rfl)
noncomputable def kd_T_doPin_14 : kt_D := ki_aload 0 <| ki_get kt_shC 5 2 <| ki_push (.int 1) <| ki_callV kt_shC 2 1 kf_R_numberOf <| ki_istore 2 <| ki_iload 2 <| ki_tsw 1 5 [(ki_drop 2 kd_T_doPin_60), (ki_drop 2 (ki_drop 0 kd_T_doPin_85)), (ki_drop 2 kd_T_doPin_65), kd_T_doPin_70, kd_T_doPin_70] (ki_drop 2 (ki_drop 0 kd_T_doPin_85))
theorem kz_T_doPin_14 : kt_Snd l kt_shC kb_T_doPin 3 RX5 (some .int) 4 0 0 false false 14 kd_T_doPin_14 :=
  sd_aload_n (pc := 14) (kt_tab_get kx_T_doPin 8 rfl) rfl <|
  sd_get (pc := 15) (k := 2) (ci := 5) kt_hc5 kt_hin5 (by decide) (kt_tab_get kx_T_doPin 9 rfl) (kg_T_doPin_in _ (List.mem_of_getElem? (i := 7) rfl)) <|
  sd_iconst (pc := 18) (kt_tab_get kx_T_doPin 10 rfl) kc_i_1 <|
  sd_callV (pc := 19) km_R_numberOf (by decide) kv_R_numberOf (ci := 2) kt_hc2 (by decide) (kt_tab_get kx_T_doPin 11 rfl) (kg_T_doPin_in _ (List.mem_of_getElem? (i := 8) rfl)) <|
  sd_istore_n (pc := 22) (kt_tab_get kx_T_doPin 12 rfl) rfl (by decide) <|
  sd_iload_n (pc := 23) (kt_tab_get kx_T_doPin 13 rfl) rfl <|
  sd_tsw (pc := 24) (tgt := 85) (kt_tab_get kx_T_doPin 14 rfl) rfl (sd_drop (k := 2) (sd_drop (k := 0) kz_T_doPin_85)) ⟨⟨60, rfl, (sd_drop (k := 2) kz_T_doPin_60)⟩, ⟨85, rfl, (sd_drop (k := 2) (sd_drop (k := 0) kz_T_doPin_85))⟩, ⟨65, rfl, (sd_drop (k := 2) kz_T_doPin_65)⟩, ⟨70, rfl, kz_T_doPin_70⟩, ⟨70, rfl, kz_T_doPin_70⟩, trivial⟩
noncomputable def kd_T_doPin_12 : kt_D := ki_iload 1 <| ki_iret
theorem kz_T_doPin_12 : kt_Snd l kt_shC kb_T_doPin 3 RX5 (some .int) 4 0 0 false false 12 kd_T_doPin_12 :=
  sd_iload_n (pc := 12) (kt_tab_get kx_T_doPin 6 rfl) rfl <|
  sd_iret (pc := 13) rfl (by decide) (kt_tab_get kx_T_doPin 7 rfl)
noncomputable def kd_T_doPin_0 : kt_D := ki_aload 0 <| ki_get kt_shC 5 2 <| ki_callV kt_shC 2 0 kf_R_checkPin <| ki_istore 1 <| ki_iload 1 <| ki_if_eq (ki_drop 1 kd_T_doPin_14) (ki_drop 0 kd_T_doPin_12)
theorem kz_T_doPin_0 : kt_Snd l kt_shC kb_T_doPin 3 RX5 (some .int) 4 0 0 false false 0 kd_T_doPin_0 :=
  sd_aload_n (pc := 0) (kt_tab_get kx_T_doPin 0 rfl) rfl <|
  sd_get (pc := 1) (k := 2) (ci := 5) kt_hc5 kt_hin5 (by decide) (kt_tab_get kx_T_doPin 1 rfl) (kg_T_doPin_in _ (List.mem_of_getElem? (i := 7) rfl)) <|
  sd_callV (pc := 4) km_R_checkPin (by decide) kv_R_checkPin (ci := 2) kt_hc2 (by decide) (kt_tab_get kx_T_doPin 2 rfl) (kg_T_doPin_in _ (List.mem_of_getElem? (i := 9) rfl)) <|
  sd_istore_n (pc := 7) (kt_tab_get kx_T_doPin 3 rfl) rfl (by decide) <|
  sd_iload_n (pc := 8) (kt_tab_get kx_T_doPin 4 rfl) rfl <|
  sd_if_eq (pc := 9) (tgt := 14) (kt_tab_get kx_T_doPin 5 rfl) rfl (sd_drop (k := 1) kz_T_doPin_14) (sd_drop (k := 0) kz_T_doPin_12)
noncomputable def kf_T_doPin : kt_F := kt_run 3 kd_T_doPin_0
theorem km_T_doPin : kt_M l kt_shC ky_T_doPin kb_T_doPin 3 (some .int) 4 false kf_T_doPin := kt_method (by decide) rfl kz_T_doPin_0
noncomputable def kd_T_reset_22 : kt_D := ki_aload 0 <| ki_push (.int 0) <| ki_put kt_shC 5 8 0 <| ki_aload 0 <| ki_push (.int 0) <| ki_put kt_shC 5 7 0 <| ki_push (.int 0) <| ki_iret
theorem kz_T_reset_22 : kt_Snd l kt_shC kb_T_reset 1 RX5 (some .int) 3 0 0 false false 22 kd_T_reset_22 :=
  sd_aload_n (pc := 22) (kt_tab_get kx_T_reset 11 rfl) rfl <|
  sd_iconst (pc := 23) (kt_tab_get kx_T_reset 12 rfl) kc_i_0 <|
  sd_put (pc := 24) (k := 8) (ci := 5) kt_hc5 kt_hin5 tyX5_ok nmX5 (by decide) rfl rfl (Or.inl ⟨rfl, rfl⟩) (kt_tab_get kx_T_reset 13 rfl) (kg_T_reset_in _ (List.mem_of_getElem? (i := 4) rfl)) <|
  sd_aload_n (pc := 27) (kt_tab_get kx_T_reset 14 rfl) rfl <|
  sd_iconst (pc := 28) (kt_tab_get kx_T_reset 15 rfl) kc_i_0 <|
  sd_put (pc := 29) (k := 7) (ci := 5) kt_hc5 kt_hin5 tyX5_ok nmX5 (by decide) rfl rfl (Or.inl ⟨rfl, rfl⟩) (kt_tab_get kx_T_reset 16 rfl) (kg_T_reset_in _ (List.mem_of_getElem? (i := 5) rfl)) <|
  sd_iconst (pc := 32) (kt_tab_get kx_T_reset 17 rfl) kc_i_0 <|
  sd_iret (pc := 33) rfl (by decide) (kt_tab_get kx_T_reset 18 rfl)
noncomputable def kd_T_reset_20 : kt_D := ki_push (.int (-1)) <| ki_iret
theorem kz_T_reset_20 : kt_Snd l kt_shC kb_T_reset 1 RX5 (some .int) 3 0 0 false false 20 kd_T_reset_20 :=
  sd_iconst (pc := 20) (kt_tab_get kx_T_reset 9 rfl) kc_i_m1 <|
  sd_iret (pc := 21) rfl (by decide) (kt_tab_get kx_T_reset 10 rfl)
noncomputable def kd_T_reset_10 : kt_D := ki_aload 0 <| ki_get kt_shC 5 0 <| ki_callV kt_shC 4 0 kf_S_dropAll <| ki_if_ne kd_T_reset_22 (ki_drop 0 kd_T_reset_20)
theorem kz_T_reset_10 : kt_Snd l kt_shC kb_T_reset 1 RX5 (some .int) 3 0 0 false false 10 kd_T_reset_10 :=
  sd_aload_n (pc := 10) (kt_tab_get kx_T_reset 5 rfl) rfl <|
  sd_get (pc := 11) (k := 0) (ci := 5) kt_hc5 kt_hin5 (by decide) (kt_tab_get kx_T_reset 6 rfl) (kg_T_reset_in _ (List.mem_of_getElem? (i := 6) rfl)) <|
  sd_callV (pc := 14) km_S_dropAll (by decide) kv_S_dropAll (ci := 4) kt_hc4 (by decide) (kt_tab_get kx_T_reset 7 rfl) (kg_T_reset_in _ (List.mem_of_getElem? (i := 7) rfl)) <|
  sd_if_ne (pc := 17) (tgt := 22) (kt_tab_get kx_T_reset 8 rfl) rfl kz_T_reset_22 (sd_drop (k := 0) kz_T_reset_20)
noncomputable def kd_T_reset_7 : kt_D := ki_push (.int 7) <| ki_iret
theorem kz_T_reset_7 : kt_Snd l kt_shC kb_T_reset 1 RX5 (some .int) 3 0 0 false false 7 kd_T_reset_7 :=
  sd_bipush (pc := 7) (kt_tab_get kx_T_reset 3 rfl) kc_b_7 <|
  sd_iret (pc := 9) rfl (by decide) (kt_tab_get kx_T_reset 4 rfl)
noncomputable def kd_T_reset_0 : kt_D := ki_aload 0 <| ki_callV kt_shC 5 0 kf_T_usePress <| ki_if_ne kd_T_reset_10 (ki_drop 0 kd_T_reset_7)
theorem kz_T_reset_0 : kt_Snd l kt_shC kb_T_reset 1 RX5 (some .int) 3 0 0 false false 0 kd_T_reset_0 :=
  sd_aload_n (pc := 0) (kt_tab_get kx_T_reset 0 rfl) rfl <|
  sd_callV (pc := 1) km_T_usePress (by decide) kv_T_usePress (ci := 5) kt_hc5 (by decide) (kt_tab_get kx_T_reset 1 rfl) (kg_T_reset_in _ (List.mem_of_getElem? (i := 8) rfl)) <|
  sd_if_ne (pc := 4) (tgt := 10) (kt_tab_get kx_T_reset 2 rfl) rfl kz_T_reset_10 (sd_drop (k := 0) kz_T_reset_7)
noncomputable def kf_T_reset : kt_F := kt_run 1 kd_T_reset_0
theorem km_T_reset : kt_M l kt_shC ky_T_reset kb_T_reset 1 (some .int) 3 false kf_T_reset := kt_method (by decide) rfl kz_T_reset_0
noncomputable def kd_T_perform_84 : kt_D := ki_aload 0 <| ki_callV kt_shC 5 0 kf_T_makeCredential <| ki_iret
theorem kz_T_perform_84 : kt_Snd l kt_shC kb_T_perform 2 RX5 (some .int) 16 0 0 false false 84 kd_T_perform_84 :=
  sd_aload_n (pc := 84) (kt_tab_get kx_T_perform 25 rfl) rfl <|
  sd_callV (pc := 85) km_T_makeCredential (by decide) kv_T_makeCredential (ci := 5) kt_hc5 (by decide) (kt_tab_get kx_T_perform 26 rfl) (kg_T_perform_in _ (List.mem_of_getElem? (i := 4) rfl)) <|
  sd_iret (pc := 88) rfl (by decide) (kt_tab_get kx_T_perform 27 rfl)
noncomputable def kd_T_perform_89 : kt_D := ki_aload 0 <| ki_callV kt_shC 5 0 kf_T_signFirst <| ki_iret
theorem kz_T_perform_89 : kt_Snd l kt_shC kb_T_perform 2 RX5 (some .int) 16 0 0 false false 89 kd_T_perform_89 :=
  sd_aload_n (pc := 89) (kt_tab_get kx_T_perform 28 rfl) rfl <|
  sd_callV (pc := 90) km_T_signFirst (by decide) kv_T_signFirst (ci := 5) kt_hc5 (by decide) (kt_tab_get kx_T_perform 29 rfl) (kg_T_perform_in _ (List.mem_of_getElem? (i := 5) rfl)) <|
  sd_iret (pc := 93) rfl (by decide) (kt_tab_get kx_T_perform 30 rfl)
noncomputable def kd_T_perform_94 : kt_D := ki_aload 0 <| ki_callV kt_shC 5 0 kf_T_tellInfo <| ki_iret
theorem kz_T_perform_94 : kt_Snd l kt_shC kb_T_perform 2 RX5 (some .int) 16 0 0 false false 94 kd_T_perform_94 :=
  sd_aload_n (pc := 94) (kt_tab_get kx_T_perform 31 rfl) rfl <|
  sd_callV (pc := 95) km_T_tellInfo (by decide) kv_T_tellInfo (ci := 5) kt_hc5 (by decide) (kt_tab_get kx_T_perform 32 rfl) (kg_T_perform_in _ (List.mem_of_getElem? (i := 6) rfl)) <|
  sd_iret (pc := 98) rfl (by decide) (kt_tab_get kx_T_perform 33 rfl)
noncomputable def kd_T_perform_99 : kt_D := ki_aload 0 <| ki_callV kt_shC 5 0 kf_T_doPin <| ki_iret
theorem kz_T_perform_99 : kt_Snd l kt_shC kb_T_perform 2 RX5 (some .int) 16 0 0 false false 99 kd_T_perform_99 :=
  sd_aload_n (pc := 99) (kt_tab_get kx_T_perform 34 rfl) rfl <|
  sd_callV (pc := 100) km_T_doPin (by decide) kv_T_doPin (ci := 5) kt_hc5 (by decide) (kt_tab_get kx_T_perform 35 rfl) (kg_T_perform_in _ (List.mem_of_getElem? (i := 7) rfl)) <|
  sd_iret (pc := 103) rfl (by decide) (kt_tab_get kx_T_perform 36 rfl)
noncomputable def kd_T_perform_104 : kt_D := ki_aload 0 <| ki_callV kt_shC 5 0 kf_T_reset <| ki_iret
theorem kz_T_perform_104 : kt_Snd l kt_shC kb_T_perform 2 RX5 (some .int) 16 0 0 false false 104 kd_T_perform_104 :=
  sd_aload_n (pc := 104) (kt_tab_get kx_T_perform 37 rfl) rfl <|
  sd_callV (pc := 105) km_T_reset (by decide) kv_T_reset (ci := 5) kt_hc5 (by decide) (kt_tab_get kx_T_perform 38 rfl) (kg_T_perform_in _ (List.mem_of_getElem? (i := 8) rfl)) <|
  sd_iret (pc := 108) rfl (by decide) (kt_tab_get kx_T_perform 39 rfl)
noncomputable def kd_T_perform_40 : kt_D := ki_aload 0 <| ki_callV kt_shC 5 0 kf_T_forgetNext <| ki_iload 1 <| ki_tsw 1 6 [(ki_drop 1 kd_T_perform_84), (ki_drop 1 kd_T_perform_89), (ki_drop 1 kd_T_perform_104), (ki_drop 1 kd_T_perform_94), (ki_drop 1 kd_T_perform_104), (ki_drop 1 kd_T_perform_99)] (ki_drop 1 kd_T_perform_104)
theorem kz_T_perform_40 : kt_Snd l kt_shC kb_T_perform 2 RX5 (some .int) 16 0 0 false false 40 kd_T_perform_40 :=
  sd_aload_n (pc := 40) (kt_tab_get kx_T_perform 21 rfl) rfl <|
  sd_callV (pc := 41) km_T_forgetNext (by decide) kv_T_forgetNext (ci := 5) kt_hc5 (by decide) (kt_tab_get kx_T_perform 22 rfl) (kg_T_perform_in _ (List.mem_of_getElem? (i := 9) rfl)) <|
  sd_iload_n (pc := 44) (kt_tab_get kx_T_perform 23 rfl) rfl <|
  sd_tsw (pc := 45) (tgt := 104) (kt_tab_get kx_T_perform 24 rfl) rfl (sd_drop (k := 1) kz_T_perform_104) ⟨⟨84, rfl, (sd_drop (k := 1) kz_T_perform_84)⟩, ⟨89, rfl, (sd_drop (k := 1) kz_T_perform_89)⟩, ⟨104, rfl, (sd_drop (k := 1) kz_T_perform_104)⟩, ⟨94, rfl, (sd_drop (k := 1) kz_T_perform_94)⟩, ⟨104, rfl, (sd_drop (k := 1) kz_T_perform_104)⟩, ⟨99, rfl, (sd_drop (k := 1) kz_T_perform_99)⟩, trivial⟩
noncomputable def kd_T_perform_35 : kt_D := ki_aload 0 <| ki_callV kt_shC 5 0 kf_T_signNext <| ki_iret
theorem kz_T_perform_35 : kt_Snd l kt_shC kb_T_perform 2 RX5 (some .int) 16 0 0 false false 35 kd_T_perform_35 :=
  sd_aload_n (pc := 35) (kt_tab_get kx_T_perform 18 rfl) rfl <|
  sd_callV (pc := 36) km_T_signNext (by decide) kv_T_signNext (ci := 5) kt_hc5 (by decide) (kt_tab_get kx_T_perform 19 rfl) (kg_T_perform_in _ (List.mem_of_getElem? (i := 10) rfl)) <|
  sd_iret (pc := 39) rfl (by decide) (kt_tab_get kx_T_perform 20 rfl)
noncomputable def kd_T_perform_29 : kt_D := ki_iload 1 <| ki_push (.int 8) <| ki_icmp_ne kd_T_perform_40 (ki_drop 1 kd_T_perform_35)
theorem kz_T_perform_29 : kt_Snd l kt_shC kb_T_perform 2 RX5 (some .int) 16 0 0 false false 29 kd_T_perform_29 :=
  sd_iload_n (pc := 29) (kt_tab_get kx_T_perform 15 rfl) rfl <|
  sd_bipush (pc := 30) (kt_tab_get kx_T_perform 16 rfl) kc_b_8 <|
  sd_icmp_ne (pc := 32) (tgt := 40) (kt_tab_get kx_T_perform 17 rfl) rfl kz_T_perform_40 (sd_drop (k := 1) kz_T_perform_35)
noncomputable def kd_T_perform_27 : kt_D := ki_push (.int 2) <| ki_iret
theorem kz_T_perform_27 : kt_Snd l kt_shC kb_T_perform 2 RX5 (some .int) 16 0 0 false false 27 kd_T_perform_27 :=
  sd_iconst (pc := 27) (kt_tab_get kx_T_perform 13 rfl) kc_i_2 <|
  sd_iret (pc := 28) rfl (by decide) (kt_tab_get kx_T_perform 14 rfl)
noncomputable def kd_T_perform_17 : kt_D := ki_aload 0 <| ki_get kt_shC 5 2 <| ki_callV kt_shC 2 0 kf_R_parse <| ki_if_ne kd_T_perform_29 (ki_drop 1 (ki_drop 0 kd_T_perform_27))
theorem kz_T_perform_17 : kt_Snd l kt_shC kb_T_perform 2 RX5 (some .int) 16 0 0 false false 17 kd_T_perform_17 :=
  sd_aload_n (pc := 17) (kt_tab_get kx_T_perform 9 rfl) rfl <|
  sd_get (pc := 18) (k := 2) (ci := 5) kt_hc5 kt_hin5 (by decide) (kt_tab_get kx_T_perform 10 rfl) (kg_T_perform_in _ (List.mem_of_getElem? (i := 11) rfl)) <|
  sd_callV (pc := 21) km_R_parse (by decide) kv_R_parse (ci := 2) kt_hc2 (by decide) (kt_tab_get kx_T_perform 11 rfl) (kg_T_perform_in _ (List.mem_of_getElem? (i := 12) rfl)) <|
  sd_if_ne (pc := 24) (tgt := 29) (kt_tab_get kx_T_perform 12 rfl) rfl kz_T_perform_29 (sd_drop (k := 1) (sd_drop (k := 0) kz_T_perform_27))
noncomputable def kd_T_perform_15 : kt_D := ki_push (.int 1) <| ki_iret
theorem kz_T_perform_15 : kt_Snd l kt_shC kb_T_perform 2 RX5 (some .int) 16 0 0 false false 15 kd_T_perform_15 :=
  sd_iconst (pc := 15) (kt_tab_get kx_T_perform 7 rfl) kc_i_1 <|
  sd_iret (pc := 16) rfl (by decide) (kt_tab_get kx_T_perform 8 rfl)
noncomputable def kd_T_perform_0 : kt_D := ki_aload 0 <| ki_get kt_shC 5 2 <| ki_callV kt_shC 2 0 kf_R_command <| ki_istore 1 <| ki_iload 1 <| ki_callS 1 kf_T_isCommand <| ki_if_ne kd_T_perform_17 (ki_drop 1 (ki_drop 0 kd_T_perform_15))
theorem kz_T_perform_0 : kt_Snd l kt_shC kb_T_perform 2 RX5 (some .int) 16 0 0 false false 0 kd_T_perform_0 :=
  sd_aload_n (pc := 0) (kt_tab_get kx_T_perform 0 rfl) rfl <|
  sd_get (pc := 1) (k := 2) (ci := 5) kt_hc5 kt_hin5 (by decide) (kt_tab_get kx_T_perform 1 rfl) (kg_T_perform_in _ (List.mem_of_getElem? (i := 11) rfl)) <|
  sd_callV (pc := 4) km_R_command (by decide) kv_R_command (ci := 2) kt_hc2 (by decide) (kt_tab_get kx_T_perform 2 rfl) (kg_T_perform_in _ (List.mem_of_getElem? (i := 13) rfl)) <|
  sd_istore_n (pc := 7) (kt_tab_get kx_T_perform 3 rfl) rfl (by decide) <|
  sd_iload_n (pc := 8) (kt_tab_get kx_T_perform 4 rfl) rfl <|
  sd_callS (pc := 9) km_T_isCommand (by decide) kv_T_isCommand (by decide) (kt_tab_get kx_T_perform 5 rfl) (kg_T_perform_in _ (List.mem_of_getElem? (i := 14) rfl)) <|
  sd_if_ne (pc := 12) (tgt := 17) (kt_tab_get kx_T_perform 6 rfl) rfl kz_T_perform_17 (sd_drop (k := 1) (sd_drop (k := 0) kz_T_perform_15))
noncomputable def kf_T_perform : kt_F := kt_run 2 kd_T_perform_0
theorem km_T_perform : kt_M l kt_shC ky_T_perform kb_T_perform 2 (some .int) 16 false kf_T_perform := kt_method (by decide) rfl kz_T_perform_0
noncomputable def kd_T_serve_72 : kt_D := ki_iload 1 <| ki_iret
theorem kz_T_serve_72 : kt_Snd l kt_shC kb_T_serve 2 RX5 (some .int) 17 0 0 false false 72 kd_T_serve_72 :=
  sd_iload_n (pc := 72) (kt_tab_get kx_T_serve 34 rfl) rfl <|
  sd_iret (pc := 73) rfl (by decide) (kt_tab_get kx_T_serve 35 rfl)
noncomputable def kd_T_serve_67 : kt_D := ki_aload 0 <| ki_push (.int 0) <| ki_callV kt_shC 5 1 kf_T_beginAnswer <| (ki_drop 0 kd_T_serve_72)
theorem kz_T_serve_67 : kt_Snd l kt_shC kb_T_serve 2 RX5 (some .int) 17 0 0 false false 67 kd_T_serve_67 :=
  sd_aload_n (pc := 67) (kt_tab_get kx_T_serve 31 rfl) rfl <|
  sd_iconst (pc := 68) (kt_tab_get kx_T_serve 32 rfl) kc_i_0 <|
  sd_callV (pc := 69) km_T_beginAnswer (by decide) kv_T_beginAnswer (ci := 5) kt_hc5 (by decide) (kt_tab_get kx_T_serve 33 rfl) (kg_T_serve_in _ (List.mem_of_getElem? (i := 4) rfl)) <|
  (sd_drop (k := 0) kz_T_serve_72)
noncomputable def kd_T_serve_57 : kt_D := ki_aload 0 <| ki_get kt_shC 5 3 <| ki_callV kt_shC 0 0 kf_B_left <| ki_if_ne (ki_drop 0 kd_T_serve_72) kd_T_serve_67
theorem kz_T_serve_57 : kt_Snd l kt_shC kb_T_serve 2 RX5 (some .int) 17 0 0 false false 57 kd_T_serve_57 :=
  sd_aload_n (pc := 57) (kt_tab_get kx_T_serve 27 rfl) rfl <|
  sd_get (pc := 58) (k := 3) (ci := 5) kt_hc5 kt_hin5 (by decide) (kt_tab_get kx_T_serve 28 rfl) (kg_T_serve_in _ (List.mem_of_getElem? (i := 5) rfl)) <|
  sd_callV (pc := 61) km_B_left (by decide) kv_B_left (ci := 0) kt_hc0 (by decide) (kt_tab_get kx_T_serve 29 rfl) (kg_T_serve_in _ (List.mem_of_getElem? (i := 6) rfl)) <|
  sd_if_ne (pc := 64) (tgt := 72) (kt_tab_get kx_T_serve 30 rfl) rfl (sd_drop (k := 0) kz_T_serve_72) kz_T_serve_67
noncomputable def kd_T_serve_46 : kt_D := ki_aload 0 <| ki_get kt_shC 5 3 <| ki_iload 1 <| ki_callV kt_shC 0 1 kf_B_add <| (ki_drop 0 kd_T_serve_72)
theorem kz_T_serve_46 : kt_Snd l kt_shC kb_T_serve 2 RX5 (some .int) 17 0 0 false false 46 kd_T_serve_46 :=
  sd_aload_n (pc := 46) (kt_tab_get kx_T_serve 22 rfl) rfl <|
  sd_get (pc := 47) (k := 3) (ci := 5) kt_hc5 kt_hin5 (by decide) (kt_tab_get kx_T_serve 23 rfl) (kg_T_serve_in _ (List.mem_of_getElem? (i := 5) rfl)) <|
  sd_iload_n (pc := 50) (kt_tab_get kx_T_serve 24 rfl) rfl <|
  sd_callV (pc := 51) km_B_add (by decide) kv_B_add (ci := 0) kt_hc0 (by decide) (kt_tab_get kx_T_serve 25 rfl) (kg_T_serve_in _ (List.mem_of_getElem? (i := 7) rfl)) <|
  sd_goto (pc := 54) (tgt := 72) (kt_tab_get kx_T_serve 26 rfl) rfl (sd_drop (k := 0) kz_T_serve_72)
noncomputable def kd_T_serve_42 : kt_D := ki_iload 1 <| ki_if_eq kd_T_serve_57 kd_T_serve_46
theorem kz_T_serve_42 : kt_Snd l kt_shC kb_T_serve 2 RX5 (some .int) 17 0 0 false false 42 kd_T_serve_42 :=
  sd_iload_n (pc := 42) (kt_tab_get kx_T_serve 20 rfl) rfl <|
  sd_if_eq (pc := 43) (tgt := 57) (kt_tab_get kx_T_serve 21 rfl) rfl kz_T_serve_57 kz_T_serve_46
noncomputable def kd_T_serve_35 : kt_D := ki_aload 0 <| ki_callV kt_shC 5 0 kf_T_goOff <| (ki_drop 0 kd_T_serve_72)
theorem kz_T_serve_35 : kt_Snd l kt_shC kb_T_serve 2 RX5 (some .int) 17 0 0 false false 35 kd_T_serve_35 :=
  sd_aload_n (pc := 35) (kt_tab_get kx_T_serve 17 rfl) rfl <|
  sd_callV (pc := 36) km_T_goOff (by decide) kv_T_goOff (ci := 5) kt_hc5 (by decide) (kt_tab_get kx_T_serve 18 rfl) (kg_T_serve_in _ (List.mem_of_getElem? (i := 8) rfl)) <|
  sd_goto (pc := 39) (tgt := 72) (kt_tab_get kx_T_serve 19 rfl) rfl (sd_drop (k := 0) kz_T_serve_72)
noncomputable def kd_T_serve_0 : kt_D := ki_aload 0 <| ki_get kt_shC 5 3 <| ki_callV kt_shC 0 0 kf_B_clear <| ki_aload 0 <| ki_callV kt_shC 5 0 kf_T_perform <| ki_istore 1 <| ki_aload 0 <| ki_get kt_shC 5 2 <| ki_get kt_shC 2 0 <| ki_callV kt_shC 0 0 kf_B_clear <| ki_aload 0 <| ki_get kt_shC 5 0 <| ki_push (.int (-1)) <| ki_put kt_shC 4 2 0 <| ki_iload 1 <| ki_push (.int (-1)) <| ki_icmp_ne kd_T_serve_42 kd_T_serve_35
theorem kz_T_serve_0 : kt_Snd l kt_shC kb_T_serve 2 RX5 (some .int) 17 0 0 false false 0 kd_T_serve_0 :=
  sd_aload_n (pc := 0) (kt_tab_get kx_T_serve 0 rfl) rfl <|
  sd_get (pc := 1) (k := 3) (ci := 5) kt_hc5 kt_hin5 (by decide) (kt_tab_get kx_T_serve 1 rfl) (kg_T_serve_in _ (List.mem_of_getElem? (i := 5) rfl)) <|
  sd_callV (pc := 4) km_B_clear (by decide) kv_B_clear (ci := 0) kt_hc0 (by decide) (kt_tab_get kx_T_serve 2 rfl) (kg_T_serve_in _ (List.mem_of_getElem? (i := 9) rfl)) <|
  sd_aload_n (pc := 7) (kt_tab_get kx_T_serve 3 rfl) rfl <|
  sd_callV (pc := 8) km_T_perform (by decide) kv_T_perform (ci := 5) kt_hc5 (by decide) (kt_tab_get kx_T_serve 4 rfl) (kg_T_serve_in _ (List.mem_of_getElem? (i := 10) rfl)) <|
  sd_istore_n (pc := 11) (kt_tab_get kx_T_serve 5 rfl) rfl (by decide) <|
  sd_aload_n (pc := 12) (kt_tab_get kx_T_serve 6 rfl) rfl <|
  sd_get (pc := 13) (k := 2) (ci := 5) kt_hc5 kt_hin5 (by decide) (kt_tab_get kx_T_serve 7 rfl) (kg_T_serve_in _ (List.mem_of_getElem? (i := 11) rfl)) <|
  sd_getN (pc := 16) (k := 0) (ci := 2) kt_hc2 kt_hin2 (by decide) (kt_tab_get kx_T_serve 8 rfl) (List.mem_of_getElem? (i := 2) rfl) <|
  sd_callV (pc := 19) km_B_clear (by decide) kv_B_clear (ci := 0) kt_hc0 (by decide) (kt_tab_get kx_T_serve 9 rfl) (kg_T_serve_in _ (List.mem_of_getElem? (i := 9) rfl)) <|
  sd_aload_n (pc := 22) (kt_tab_get kx_T_serve 10 rfl) rfl <|
  sd_get (pc := 23) (k := 0) (ci := 5) kt_hc5 kt_hin5 (by decide) (kt_tab_get kx_T_serve 11 rfl) (kg_T_serve_in _ (List.mem_of_getElem? (i := 12) rfl)) <|
  sd_iconst (pc := 26) (kt_tab_get kx_T_serve 12 rfl) kc_i_m1 <|
  sd_putN (pc := 27) (k := 2) (ci := 4) kt_hc4 kt_hin4 tyX4_ok nmX4 (by decide) rfl rfl (Or.inl ⟨rfl, rfl⟩) (kt_tab_get kx_T_serve 13 rfl) (List.mem_of_getElem? (i := 3) rfl) <|
  sd_iload_n (pc := 30) (kt_tab_get kx_T_serve 14 rfl) rfl <|
  sd_iconst (pc := 31) (kt_tab_get kx_T_serve 15 rfl) kc_i_m1 <|
  sd_icmp_ne (pc := 32) (tgt := 42) (kt_tab_get kx_T_serve 16 rfl) rfl kz_T_serve_42 kz_T_serve_35
noncomputable def kf_T_serve : kt_F := kt_run 2 kd_T_serve_0
theorem km_T_serve : kt_M l kt_shC ky_T_serve kb_T_serve 2 (some .int) 17 false kf_T_serve := kt_method (by decide) rfl kz_T_serve_0
end
section
variable {l : Launch}
noncomputable def kd_K_press_12 : kt_D := ki_aload 0 <| ki_get kt_shC 6 0 <| ki_push (.int 1) <| ki_put kt_shC 5 6 1 <| ki_push (.int 1) <| ki_zret
theorem kz_K_press_12 : kt_Snd l kt_shC kb_K_press 1 RX6 (some .boolean) 0 0 0 false false 12 kd_K_press_12 :=
  sd_aload_n (pc := 12) (kt_tab_get kx_K_press 6 rfl) rfl <|
  sd_get (pc := 13) (k := 0) (ci := 6) kt_hc6 kt_hin6 (by decide) (kt_tab_get kx_K_press 7 rfl) (kg_K_press_in _ (List.mem_of_getElem? (i := 4) rfl)) <|
  sd_iconst (pc := 16) (kt_tab_get kx_K_press 8 rfl) kc_i_1 <|
  sd_putN (pc := 17) (k := 6) (ci := 5) kt_hc5 kt_hin5 tyX5_ok nmX5 (by decide) rfl rfl (Or.inr ⟨rfl, rfl⟩) (kt_tab_get kx_K_press 9 rfl) (List.mem_of_getElem? (i := 5) rfl) <|
  sd_iconst (pc := 20) (kt_tab_get kx_K_press 10 rfl) kc_i_1 <|
  sd_zret (pc := 21) rfl (by decide) (kt_tab_get kx_K_press 11 rfl)
noncomputable def kd_K_press_10 : kt_D := ki_push (.int 0) <| ki_zret
theorem kz_K_press_10 : kt_Snd l kt_shC kb_K_press 1 RX6 (some .boolean) 0 0 0 false false 10 kd_K_press_10 :=
  sd_iconst (pc := 10) (kt_tab_get kx_K_press 4 rfl) kc_i_0 <|
  sd_zret (pc := 11) rfl (by decide) (kt_tab_get kx_K_press 5 rfl)
noncomputable def kd_K_press_0 : kt_D := ki_aload 0 <| ki_get kt_shC 6 0 <| ki_get kt_shC 5 5 <| ki_if_ne kd_K_press_12 (ki_drop 0 kd_K_press_10)
theorem kz_K_press_0 : kt_Snd l kt_shC kb_K_press 1 RX6 (some .boolean) 0 0 0 false false 0 kd_K_press_0 :=
  sd_aload_n (pc := 0) (kt_tab_get kx_K_press 0 rfl) rfl <|
  sd_get (pc := 1) (k := 0) (ci := 6) kt_hc6 kt_hin6 (by decide) (kt_tab_get kx_K_press 1 rfl) (kg_K_press_in _ (List.mem_of_getElem? (i := 4) rfl)) <|
  sd_getN (pc := 4) (k := 5) (ci := 5) kt_hc5 kt_hin5 (by decide) (kt_tab_get kx_K_press 2 rfl) (List.mem_of_getElem? (i := 6) rfl) <|
  sd_if_ne (pc := 7) (tgt := 12) (kt_tab_get kx_K_press 3 rfl) rfl kz_K_press_12 (sd_drop (k := 0) kz_K_press_10)
noncomputable def kf_K_press : kt_F := kt_run 1 kd_K_press_0
theorem km_K_press : kt_M l kt_shC ky_K_press kb_K_press 1 (some .boolean) 0 false kf_K_press := kt_method (by decide) rfl kz_K_press_0
noncomputable def kd_K_feed_48 : kt_D := ki_throw 1
theorem kz_K_feed_48 (hf : l.flags = pinnedFlags ++ [noTraceFlag]) : kt_Snd l kt_shC kb_K_feed 5 RX6 none 6 1 6 true false 48 kd_K_feed_48 :=
  sd_throw (pc := 48) (n := 1) hf rfl (by decide) rfl (by decide) (by decide) (by decide) (kt_tab_get kx_K_feed 22 rfl) (kt_tab_get kx_K_feed 23 rfl) (kt_tab_get kx_K_feed 24 rfl) (kt_tab_get kx_K_feed 25 rfl) (kt_tab_get kx_K_feed 26 rfl) (kg_K_feed_in _ (List.mem_of_getElem? (i := 4) rfl)) (kg_K_feed_in _ (List.mem_of_getElem? (i := 5) rfl)) (kg_K_feed_in _ (List.mem_of_getElem? (i := 6) rfl)) (k := 1) rfl kt_tw_1
noncomputable def kd_K_feed_95 : kt_D := ki_vret
theorem kz_K_feed_95 (hf : l.flags = pinnedFlags ++ [noTraceFlag]) : kt_Snd l kt_shC kb_K_feed 5 RX6 none 6 1 6 false false 95 kd_K_feed_95 :=
  sd_vret (pc := 95) rfl (by decide) (kt_tab_get kx_K_feed 46 rfl)
noncomputable def kd_K_feed_68 (kh_63 : kt_D) : kt_D := ki_aload 0 <| ki_get kt_shC 6 0 <| ki_get kt_shC 5 2 <| ki_get kt_shC 2 0 <| ki_lload 1 <| ki_push (.int 8) <| ki_iload 4 <| ki_imul <| ki_lshr <| ki_l2i <| ki_callV kt_shC 0 1 kf_B_add <| ki_iinc 4 (-1) <| kh_63
theorem kz_K_feed_68 (hf : l.flags = pinnedFlags ++ [noTraceFlag]) {kh_63 : kt_D} (zh_63 : kt_Snd l kt_shC kb_K_feed 5 RX6 none 6 1 6 false false 63 kh_63) : kt_Snd l kt_shC kb_K_feed 5 RX6 none 6 1 6 false false 68 (kd_K_feed_68 kh_63) :=
  sd_aload_n (pc := 68) (kt_tab_get kx_K_feed 33 rfl) rfl <|
  sd_get (pc := 69) (k := 0) (ci := 6) kt_hc6 kt_hin6 (by decide) (kt_tab_get kx_K_feed 34 rfl) (kg_K_feed_in _ (List.mem_of_getElem? (i := 7) rfl)) <|
  sd_getN (pc := 72) (k := 2) (ci := 5) kt_hc5 kt_hin5 (by decide) (kt_tab_get kx_K_feed 35 rfl) (List.mem_of_getElem? (i := 7) rfl) <|
  sd_getN (pc := 75) (k := 0) (ci := 2) kt_hc2 kt_hin2 (by decide) (kt_tab_get kx_K_feed 36 rfl) (List.mem_of_getElem? (i := 8) rfl) <|
  sd_lload_n (pc := 78) (kt_tab_get kx_K_feed 37 rfl) rfl <|
  sd_bipush (pc := 79) (kt_tab_get kx_K_feed 38 rfl) kc_b_8 <|
  sd_iload (pc := 81) (kt_tab_get kx_K_feed 39 rfl) <|
  sd_imul (pc := 83) (kt_tab_get kx_K_feed 40 rfl) <|
  sd_lshr (pc := 84) (kt_tab_get kx_K_feed 41 rfl) <|
  sd_l2i (pc := 85) (kt_tab_get kx_K_feed 42 rfl) <|
  sd_callV (pc := 86) km_B_add (by decide) kv_B_add (ci := 0) kt_hc0 (by decide) (kt_tab_get kx_K_feed 43 rfl) (kg_K_feed_in _ (List.mem_of_getElem? (i := 8) rfl)) <|
  sd_iinc (pc := 89) (kt_tab_get kx_K_feed 44 rfl) kc_i_m1 (by decide) <|
  sd_goto (pc := 92) (tgt := 63) (kt_tab_get kx_K_feed 45 rfl) rfl zh_63
noncomputable def kd_K_feed_63b (kh_63 : kt_D) : kt_D := ki_iload 4 <| ki_if_lt (ki_drop 4 (ki_drop 1 (ki_drop 0 kd_K_feed_95))) (kd_K_feed_68 kh_63)
theorem kz_K_feed_63b (hf : l.flags = pinnedFlags ++ [noTraceFlag]) {kh_63 : kt_D} (zh_63 : kt_Snd l kt_shC kb_K_feed 5 RX6 none 6 1 6 false false 63 kh_63) : kt_Snd l kt_shC kb_K_feed 5 RX6 none 6 1 6 false false 63 (kd_K_feed_63b kh_63) :=
  sd_iload (pc := 63) (kt_tab_get kx_K_feed 31 rfl) <|
  sd_if_lt (pc := 65) (tgt := 95) (kt_tab_get kx_K_feed 32 rfl) rfl (sd_drop (k := 4) (sd_drop (k := 1) (sd_drop (k := 0) (kz_K_feed_95 hf)))) (kz_K_feed_68 hf zh_63)
noncomputable def kd_K_feed_63 (n : Nat) : kt_D := Nat.rec (fun _ _ _ => none) (fun _ ih => kd_K_feed_63b ih) n
theorem kz_K_feed_63 (hf : l.flags = pinnedFlags ++ [noTraceFlag]) (n : Nat) : kt_Snd l kt_shC kb_K_feed 5 RX6 none 6 1 6 false false 63 (kd_K_feed_63 n) := by
  induction n with
  | zero => exact sd_fail
  | succ n ih => exact kz_K_feed_63b hf ih
noncomputable def kd_K_feed_58 : kt_D := ki_iload 3 <| ki_push (.int 1) <| ki_isub <| ki_istore 4 <| (ki_drop 3 (kd_K_feed_63 100))
theorem kz_K_feed_58 (hf : l.flags = pinnedFlags ++ [noTraceFlag]) : kt_Snd l kt_shC kb_K_feed 5 RX6 none 6 1 6 true false 58 kd_K_feed_58 :=
  sd_iload_n (pc := 58) (kt_tab_get kx_K_feed 27 rfl) rfl <|
  sd_iconst (pc := 59) (kt_tab_get kx_K_feed 28 rfl) kc_i_1 <|
  sd_isub (pc := 60) (kt_tab_get kx_K_feed 29 rfl) <|
  sd_istore (pc := 61) (kt_tab_get kx_K_feed 30 rfl) (by decide) <|
  (sd_drop (k := 3) (sd_hist (kz_K_feed_63 hf 100)))
noncomputable def kd_K_feed_31 : kt_D := ki_iload 3 <| ki_aload 0 <| ki_get kt_shC 6 0 <| ki_get kt_shC 5 2 <| ki_get kt_shC 2 0 <| ki_callV kt_shC 0 0 kf_B_room <| ki_icmp_le kd_K_feed_58 (ki_drop 3 (ki_drop 1 (ki_drop 0 kd_K_feed_48)))
theorem kz_K_feed_31 (hf : l.flags = pinnedFlags ++ [noTraceFlag]) : kt_Snd l kt_shC kb_K_feed 5 RX6 none 6 1 6 true false 31 kd_K_feed_31 :=
  sd_iload_n (pc := 31) (kt_tab_get kx_K_feed 15 rfl) rfl <|
  sd_aload_n (pc := 32) (kt_tab_get kx_K_feed 16 rfl) rfl <|
  sd_get (pc := 33) (k := 0) (ci := 6) kt_hc6 kt_hin6 (by decide) (kt_tab_get kx_K_feed 17 rfl) (kg_K_feed_in _ (List.mem_of_getElem? (i := 7) rfl)) <|
  sd_getN (pc := 36) (k := 2) (ci := 5) kt_hc5 kt_hin5 (by decide) (kt_tab_get kx_K_feed 18 rfl) (List.mem_of_getElem? (i := 7) rfl) <|
  sd_getN (pc := 39) (k := 0) (ci := 2) kt_hc2 kt_hin2 (by decide) (kt_tab_get kx_K_feed 19 rfl) (List.mem_of_getElem? (i := 8) rfl) <|
  sd_callV (pc := 42) km_B_room (by decide) kv_B_room (ci := 0) kt_hc0 (by decide) (kt_tab_get kx_K_feed 20 rfl) (kg_K_feed_in _ (List.mem_of_getElem? (i := 9) rfl)) <|
  sd_icmp_le (pc := 45) (tgt := 58) (kt_tab_get kx_K_feed 21 rfl) rfl (kz_K_feed_58 hf) (sd_drop (k := 3) (sd_drop (k := 1) (sd_drop (k := 0) (kz_K_feed_48 hf))))
noncomputable def kd_K_feed_25 : kt_D := ki_iload 3 <| ki_push (.int 8) <| ki_icmp_gt (ki_drop 3 (ki_drop 1 (ki_drop 0 kd_K_feed_48))) kd_K_feed_31
theorem kz_K_feed_25 (hf : l.flags = pinnedFlags ++ [noTraceFlag]) : kt_Snd l kt_shC kb_K_feed 5 RX6 none 6 1 6 true false 25 kd_K_feed_25 :=
  sd_iload_n (pc := 25) (kt_tab_get kx_K_feed 12 rfl) rfl <|
  sd_bipush (pc := 26) (kt_tab_get kx_K_feed 13 rfl) kc_b_8 <|
  sd_icmp_gt (pc := 28) (tgt := 48) (kt_tab_get kx_K_feed 14 rfl) rfl (sd_drop (k := 3) (sd_drop (k := 1) (sd_drop (k := 0) (kz_K_feed_48 hf)))) (kz_K_feed_31 hf)
noncomputable def kd_K_feed_20 : kt_D := ki_iload 3 <| ki_push (.int 1) <| ki_icmp_lt (ki_drop 3 (ki_drop 1 (ki_drop 0 kd_K_feed_48))) kd_K_feed_25
theorem kz_K_feed_20 (hf : l.flags = pinnedFlags ++ [noTraceFlag]) : kt_Snd l kt_shC kb_K_feed 5 RX6 none 6 1 6 true false 20 kd_K_feed_20 :=
  sd_iload_n (pc := 20) (kt_tab_get kx_K_feed 9 rfl) rfl <|
  sd_iconst (pc := 21) (kt_tab_get kx_K_feed 10 rfl) kc_i_1 <|
  sd_icmp_lt (pc := 22) (tgt := 48) (kt_tab_get kx_K_feed 11 rfl) rfl (sd_drop (k := 3) (sd_drop (k := 1) (sd_drop (k := 0) (kz_K_feed_48 hf)))) (kz_K_feed_25 hf)
noncomputable def kd_K_feed_10 : kt_D := ki_throw 0
theorem kz_K_feed_10 (hf : l.flags = pinnedFlags ++ [noTraceFlag]) : kt_Snd l kt_shC kb_K_feed 5 RX6 none 6 1 6 true false 10 kd_K_feed_10 :=
  sd_throw (pc := 10) (n := 0) hf rfl (by decide) rfl (by decide) (by decide) (by decide) (kt_tab_get kx_K_feed 4 rfl) (kt_tab_get kx_K_feed 5 rfl) (kt_tab_get kx_K_feed 6 rfl) (kt_tab_get kx_K_feed 7 rfl) (kt_tab_get kx_K_feed 8 rfl) (kg_K_feed_in _ (List.mem_of_getElem? (i := 10) rfl)) (kg_K_feed_in _ (List.mem_of_getElem? (i := 11) rfl)) (kg_K_feed_in _ (List.mem_of_getElem? (i := 12) rfl)) (k := 0) rfl kt_tw_0
noncomputable def kd_K_feed_0 : kt_D := ki_aload 0 <| ki_get kt_shC 6 0 <| ki_get kt_shC 5 5 <| ki_if_ne kd_K_feed_20 (ki_drop 3 (ki_drop 1 (ki_drop 0 kd_K_feed_10)))
theorem kz_K_feed_0 (hf : l.flags = pinnedFlags ++ [noTraceFlag]) : kt_Snd l kt_shC kb_K_feed 5 RX6 none 6 1 6 true false 0 kd_K_feed_0 :=
  sd_aload_n (pc := 0) (kt_tab_get kx_K_feed 0 rfl) rfl <|
  sd_get (pc := 1) (k := 0) (ci := 6) kt_hc6 kt_hin6 (by decide) (kt_tab_get kx_K_feed 1 rfl) (kg_K_feed_in _ (List.mem_of_getElem? (i := 7) rfl)) <|
  sd_getN (pc := 4) (k := 5) (ci := 5) kt_hc5 kt_hin5 (by decide) (kt_tab_get kx_K_feed 2 rfl) (List.mem_of_getElem? (i := 6) rfl) <|
  sd_if_ne (pc := 7) (tgt := 20) (kt_tab_get kx_K_feed 3 rfl) rfl (kz_K_feed_20 hf) (sd_drop (k := 3) (sd_drop (k := 1) (sd_drop (k := 0) (kz_K_feed_10 hf))))
noncomputable def kf_K_feed : kt_F := kt_run 5 kd_K_feed_0
theorem km_K_feed (hf : l.flags = pinnedFlags ++ [noTraceFlag]) : kt_MT l kt_shC ky_K_feed kb_K_feed 5 none 6 1 6 kf_K_feed := kt_methodT (by decide) rfl (kz_K_feed_0 hf)
noncomputable def kd_K_send_20 : kt_D := ki_aload 0 <| ki_get kt_shC 6 0 <| ki_callV kt_shC 5 0 kf_T_serve <| ki_iret
theorem kz_K_send_20 (hf : l.flags = pinnedFlags ++ [noTraceFlag]) : kt_Snd l kt_shC kb_K_send 1 RX6 (some .int) 18 1 6 true false 20 kd_K_send_20 :=
  sd_aload_n (pc := 20) (kt_tab_get kx_K_send 9 rfl) rfl <|
  sd_get (pc := 21) (k := 0) (ci := 6) kt_hc6 kt_hin6 (by decide) (kt_tab_get kx_K_send 10 rfl) (kg_K_send_in _ (List.mem_of_getElem? (i := 4) rfl)) <|
  sd_hist <|
  sd_callV (pc := 24) km_T_serve (by decide) kv_T_serve (ci := 5) kt_hc5 (by decide) (kt_tab_get kx_K_send 11 rfl) (kg_K_send_in _ (List.mem_of_getElem? (i := 5) rfl)) <|
  sd_iret (pc := 27) rfl (by decide) (kt_tab_get kx_K_send 12 rfl)
noncomputable def kd_K_send_10 : kt_D := ki_throw 0
theorem kz_K_send_10 (hf : l.flags = pinnedFlags ++ [noTraceFlag]) : kt_Snd l kt_shC kb_K_send 1 RX6 (some .int) 18 1 6 true false 10 kd_K_send_10 :=
  sd_throw (pc := 10) (n := 0) hf rfl (by decide) rfl (by decide) (by decide) (by decide) (kt_tab_get kx_K_send 4 rfl) (kt_tab_get kx_K_send 5 rfl) (kt_tab_get kx_K_send 6 rfl) (kt_tab_get kx_K_send 7 rfl) (kt_tab_get kx_K_send 8 rfl) (kg_K_send_in _ (List.mem_of_getElem? (i := 6) rfl)) (kg_K_send_in _ (List.mem_of_getElem? (i := 7) rfl)) (kg_K_send_in _ (List.mem_of_getElem? (i := 8) rfl)) (k := 0) rfl kt_tw_0
noncomputable def kd_K_send_0 : kt_D := ki_aload 0 <| ki_get kt_shC 6 0 <| ki_get kt_shC 5 5 <| ki_if_ne kd_K_send_20 (ki_drop 0 kd_K_send_10)
theorem kz_K_send_0 (hf : l.flags = pinnedFlags ++ [noTraceFlag]) : kt_Snd l kt_shC kb_K_send 1 RX6 (some .int) 18 1 6 true false 0 kd_K_send_0 :=
  sd_aload_n (pc := 0) (kt_tab_get kx_K_send 0 rfl) rfl <|
  sd_get (pc := 1) (k := 0) (ci := 6) kt_hc6 kt_hin6 (by decide) (kt_tab_get kx_K_send 1 rfl) (kg_K_send_in _ (List.mem_of_getElem? (i := 4) rfl)) <|
  sd_getN (pc := 4) (k := 5) (ci := 5) kt_hc5 kt_hin5 (by decide) (kt_tab_get kx_K_send 2 rfl) (List.mem_of_getElem? (i := 6) rfl) <|
  sd_if_ne (pc := 7) (tgt := 20) (kt_tab_get kx_K_send 3 rfl) rfl (kz_K_send_20 hf) (sd_drop (k := 0) (kz_K_send_10 hf))
noncomputable def kf_K_send : kt_F := kt_run 1 kd_K_send_0
theorem km_K_send (hf : l.flags = pinnedFlags ++ [noTraceFlag]) : kt_MT l kt_shC ky_K_send kb_K_send 1 (some .int) 18 1 6 kf_K_send := kt_methodT (by decide) rfl (kz_K_send_0 hf)
noncomputable def kd_K_waiting_0 : kt_D := ki_aload 0 <| ki_get kt_shC 6 0 <| ki_get kt_shC 5 3 <| ki_callV kt_shC 0 0 kf_B_left <| ki_iret
theorem kz_K_waiting_0 : kt_Snd l kt_shC kb_K_waiting 1 RX6 (some .int) 1 0 0 true true 0 kd_K_waiting_0 :=
  sd_aload_n (pc := 0) (kt_tab_get kx_K_waiting 0 rfl) rfl <|
  sd_get (pc := 1) (k := 0) (ci := 6) kt_hc6 kt_hin6 (by decide) (kt_tab_get kx_K_waiting 1 rfl) (kg_K_waiting_in _ (List.mem_of_getElem? (i := 4) rfl)) <|
  sd_getN (pc := 4) (k := 3) (ci := 5) kt_hc5 kt_hin5 (by decide) (kt_tab_get kx_K_waiting 2 rfl) (List.mem_of_getElem? (i := 9) rfl) <|
  sd_callV (pc := 7) km_B_left (by decide) kv_B_left (ci := 0) kt_hc0 (by decide) (kt_tab_get kx_K_waiting 3 rfl) (kg_K_waiting_in _ (List.mem_of_getElem? (i := 5) rfl)) <|
  sd_iret (pc := 10) rfl (by decide) (kt_tab_get kx_K_waiting 4 rfl)
noncomputable def kf_K_waiting : kt_F := kt_run 1 kd_K_waiting_0
theorem km_K_waiting : kt_M l kt_shC ky_K_waiting kb_K_waiting 1 (some .int) 1 true kf_K_waiting := kt_method (by decide) rfl kz_K_waiting_0
noncomputable def kd_K_take_69 : kt_D := ki_lload 1 <| ki_lret
theorem kz_K_take_69 (hf : l.flags = pinnedFlags ++ [noTraceFlag]) : kt_Snd l kt_shC kb_K_take 4 RX6 (some .long) 6 1 6 false false 69 kd_K_take_69 :=
  sd_lload_n (pc := 69) (kt_tab_get kx_K_take 34 rfl) rfl <|
  sd_lret (pc := 70) rfl (by decide) (kt_tab_get kx_K_take 35 rfl)
noncomputable def kd_K_take_46 (kh_27 : kt_D) : kt_D := ki_lload 1 <| ki_push (.int 8) <| ki_lshl <| ki_aload 0 <| ki_get kt_shC 6 0 <| ki_get kt_shC 5 3 <| ki_callV kt_shC 0 0 kf_B_removeFirst <| ki_i2l <| ki_lor <| ki_lstore 1 <| ki_iinc 3 1 <| kh_27
theorem kz_K_take_46 (hf : l.flags = pinnedFlags ++ [noTraceFlag]) {kh_27 : kt_D} (zh_27 : kt_Snd l kt_shC kb_K_take 4 RX6 (some .long) 6 1 6 false false 27 kh_27) : kt_Snd l kt_shC kb_K_take 4 RX6 (some .long) 6 1 6 false false 46 (kd_K_take_46 kh_27) :=
  sd_lload_n (pc := 46) (kt_tab_get kx_K_take 22 rfl) rfl <|
  sd_bipush (pc := 47) (kt_tab_get kx_K_take 23 rfl) kc_b_8 <|
  sd_lshl (pc := 49) (kt_tab_get kx_K_take 24 rfl) <|
  sd_aload_n (pc := 50) (kt_tab_get kx_K_take 25 rfl) rfl <|
  sd_get (pc := 51) (k := 0) (ci := 6) kt_hc6 kt_hin6 (by decide) (kt_tab_get kx_K_take 26 rfl) (kg_K_take_in _ (List.mem_of_getElem? (i := 4) rfl)) <|
  sd_getN (pc := 54) (k := 3) (ci := 5) kt_hc5 kt_hin5 (by decide) (kt_tab_get kx_K_take 27 rfl) (List.mem_of_getElem? (i := 9) rfl) <|
  sd_callV (pc := 57) km_B_removeFirst (by decide) kv_B_removeFirst (ci := 0) kt_hc0 (by decide) (kt_tab_get kx_K_take 28 rfl) (kg_K_take_in _ (List.mem_of_getElem? (i := 5) rfl)) <|
  sd_i2l (pc := 60) (kt_tab_get kx_K_take 29 rfl) <|
  sd_lor (pc := 61) (kt_tab_get kx_K_take 30 rfl) <|
  sd_lstore_n (pc := 62) (kt_tab_get kx_K_take 31 rfl) rfl (by decide) <|
  sd_iinc (pc := 63) (kt_tab_get kx_K_take 32 rfl) kc_i_1 (by decide) <|
  sd_goto (pc := 66) (tgt := 27) (kt_tab_get kx_K_take 33 rfl) rfl zh_27
noncomputable def kd_K_take_33 (kh_27 : kt_D) : kt_D := ki_aload 0 <| ki_get kt_shC 6 0 <| ki_get kt_shC 5 3 <| ki_callV kt_shC 0 0 kf_B_left <| ki_if_le (ki_drop 3 (ki_drop 0 kd_K_take_69)) (kd_K_take_46 kh_27)
theorem kz_K_take_33 (hf : l.flags = pinnedFlags ++ [noTraceFlag]) {kh_27 : kt_D} (zh_27 : kt_Snd l kt_shC kb_K_take 4 RX6 (some .long) 6 1 6 false false 27 kh_27) : kt_Snd l kt_shC kb_K_take 4 RX6 (some .long) 6 1 6 false false 33 (kd_K_take_33 kh_27) :=
  sd_aload_n (pc := 33) (kt_tab_get kx_K_take 17 rfl) rfl <|
  sd_get (pc := 34) (k := 0) (ci := 6) kt_hc6 kt_hin6 (by decide) (kt_tab_get kx_K_take 18 rfl) (kg_K_take_in _ (List.mem_of_getElem? (i := 4) rfl)) <|
  sd_getN (pc := 37) (k := 3) (ci := 5) kt_hc5 kt_hin5 (by decide) (kt_tab_get kx_K_take 19 rfl) (List.mem_of_getElem? (i := 9) rfl) <|
  sd_callV (pc := 40) km_B_left (by decide) kv_B_left (ci := 0) kt_hc0 (by decide) (kt_tab_get kx_K_take 20 rfl) (kg_K_take_in _ (List.mem_of_getElem? (i := 6) rfl)) <|
  sd_if_le (pc := 43) (tgt := 69) (kt_tab_get kx_K_take 21 rfl) rfl (sd_drop (k := 3) (sd_drop (k := 0) (kz_K_take_69 hf))) (kz_K_take_46 hf zh_27)
noncomputable def kd_K_take_27b (kh_27 : kt_D) : kt_D := ki_iload 3 <| ki_push (.int 8) <| ki_icmp_ge (ki_drop 3 (ki_drop 0 kd_K_take_69)) (kd_K_take_33 kh_27)
theorem kz_K_take_27b (hf : l.flags = pinnedFlags ++ [noTraceFlag]) {kh_27 : kt_D} (zh_27 : kt_Snd l kt_shC kb_K_take 4 RX6 (some .long) 6 1 6 false false 27 kh_27) : kt_Snd l kt_shC kb_K_take 4 RX6 (some .long) 6 1 6 false false 27 (kd_K_take_27b kh_27) :=
  sd_iload_n (pc := 27) (kt_tab_get kx_K_take 14 rfl) rfl <|
  sd_bipush (pc := 28) (kt_tab_get kx_K_take 15 rfl) kc_b_8 <|
  sd_icmp_ge (pc := 30) (tgt := 69) (kt_tab_get kx_K_take 16 rfl) rfl (sd_drop (k := 3) (sd_drop (k := 0) (kz_K_take_69 hf))) (kz_K_take_33 hf zh_27)
noncomputable def kd_K_take_27 (n : Nat) : kt_D := Nat.rec (fun _ _ _ => none) (fun _ ih => kd_K_take_27b ih) n
theorem kz_K_take_27 (hf : l.flags = pinnedFlags ++ [noTraceFlag]) (n : Nat) : kt_Snd l kt_shC kb_K_take 4 RX6 (some .long) 6 1 6 false false 27 (kd_K_take_27 n) := by
  induction n with
  | zero => exact sd_fail
  | succ n ih => exact kz_K_take_27b hf ih
noncomputable def kd_K_take_23 : kt_D := ki_push (.long 0) <| ki_lstore 1 <| ki_push (.int 0) <| ki_istore 3 <| (kd_K_take_27 100)
theorem kz_K_take_23 (hf : l.flags = pinnedFlags ++ [noTraceFlag]) : kt_Snd l kt_shC kb_K_take 4 RX6 (some .long) 6 1 6 true false 23 kd_K_take_23 :=
  sd_lconst (pc := 23) (kt_tab_get kx_K_take 10 rfl) kc_l_0 <|
  sd_lstore_n (pc := 24) (kt_tab_get kx_K_take 11 rfl) rfl (by decide) <|
  sd_iconst (pc := 25) (kt_tab_get kx_K_take 12 rfl) kc_i_0 <|
  sd_istore_n (pc := 26) (kt_tab_get kx_K_take 13 rfl) rfl (by decide) <|
  (sd_hist (kz_K_take_27 hf 100))
noncomputable def kd_K_take_13 : kt_D := ki_throw 2
theorem kz_K_take_13 (hf : l.flags = pinnedFlags ++ [noTraceFlag]) : kt_Snd l kt_shC kb_K_take 4 RX6 (some .long) 6 1 6 true false 13 kd_K_take_13 :=
  sd_throwX (ix := 13) (rx := prog_19_method_4_code) (by decide +kernel) (by decide +kernel) (by decide +kernel) (by decide +kernel) (pc := 13) (n := 2) hf rfl (by decide) rfl (by decide) (by decide) (by decide) (kt_tab_get kx_K_take 5 rfl) (kt_tab_get kx_K_take 6 rfl) (kt_tab_get kx_K_take 7 rfl) (kt_tab_get kx_K_take 8 rfl) (kt_tab_get kx_K_take 9 rfl) (kg_K_take_in _ (List.mem_of_getElem? (i := 7) rfl)) (kg_K_take_in _ (List.mem_of_getElem? (i := 8) rfl)) (kg_K_take_in _ (List.mem_of_getElem? (i := 9) rfl)) (k := 2) rfl kt_tw_2
noncomputable def kd_K_take_0 : kt_D := ki_aload 0 <| ki_get kt_shC 6 0 <| ki_get kt_shC 5 3 <| ki_callV kt_shC 0 0 kf_B_left <| ki_if_ne kd_K_take_23 (ki_drop 0 kd_K_take_13)
theorem kz_K_take_0 (hf : l.flags = pinnedFlags ++ [noTraceFlag]) : kt_Snd l kt_shC kb_K_take 4 RX6 (some .long) 6 1 6 true false 0 kd_K_take_0 :=
  sd_aload_n (pc := 0) (kt_tab_get kx_K_take 0 rfl) rfl <|
  sd_get (pc := 1) (k := 0) (ci := 6) kt_hc6 kt_hin6 (by decide) (kt_tab_get kx_K_take 1 rfl) (kg_K_take_in _ (List.mem_of_getElem? (i := 4) rfl)) <|
  sd_getN (pc := 4) (k := 3) (ci := 5) kt_hc5 kt_hin5 (by decide) (kt_tab_get kx_K_take 2 rfl) (List.mem_of_getElem? (i := 9) rfl) <|
  sd_callV (pc := 7) km_B_left (by decide) kv_B_left (ci := 0) kt_hc0 (by decide) (kt_tab_get kx_K_take 3 rfl) (kg_K_take_in _ (List.mem_of_getElem? (i := 6) rfl)) <|
  sd_if_ne (pc := 10) (tgt := 23) (kt_tab_get kx_K_take 4 rfl) rfl (kz_K_take_23 hf) (sd_drop (k := 0) (kz_K_take_13 hf))
noncomputable def kf_K_take : kt_F := kt_run 4 kd_K_take_0
theorem km_K_take (hf : l.flags = pinnedFlags ++ [noTraceFlag]) : kt_MT l kt_shC ky_K_take kb_K_take 4 (some .long) 6 1 6 kf_K_take := kt_methodT (by decide) rfl (kz_K_take_0 hf)
noncomputable def kd_K_power_34 : kt_D := ki_push (.int 1) <| ki_zret
theorem kz_K_power_34 : kt_Snd l kt_shC kb_K_power 2 RX6 (some .boolean) 6 0 0 false false 34 kd_K_power_34 :=
  sd_iconst (pc := 34) (kt_tab_get kx_K_power 16 rfl) kc_i_1 <|
  sd_zret (pc := 35) rfl (by decide) (kt_tab_get kx_K_power 17 rfl)
noncomputable def kd_K_power_27 : kt_D := ki_aload 0 <| ki_get kt_shC 6 0 <| ki_callV kt_shC 5 0 kf_T_goOff <| (ki_drop 0 kd_K_power_34)
theorem kz_K_power_27 : kt_Snd l kt_shC kb_K_power 2 RX6 (some .boolean) 6 0 0 false false 27 kd_K_power_27 :=
  sd_aload_n (pc := 27) (kt_tab_get kx_K_power 13 rfl) rfl <|
  sd_get (pc := 28) (k := 0) (ci := 6) kt_hc6 kt_hin6 (by decide) (kt_tab_get kx_K_power 14 rfl) (kg_K_power_in _ (List.mem_of_getElem? (i := 4) rfl)) <|
  sd_callV (pc := 31) km_T_goOff (by decide) kv_T_goOff (ci := 5) kt_hc5 (by decide) (kt_tab_get kx_K_power 15 rfl) (kg_K_power_in _ (List.mem_of_getElem? (i := 5) rfl)) <|
  (sd_drop (k := 0) kz_K_power_34)
noncomputable def kd_K_power_17 : kt_D := ki_aload 0 <| ki_get kt_shC 6 0 <| ki_callV kt_shC 5 0 kf_T_comeOn <| (ki_drop 0 kd_K_power_34)
theorem kz_K_power_17 : kt_Snd l kt_shC kb_K_power 2 RX6 (some .boolean) 6 0 0 false false 17 kd_K_power_17 :=
  sd_aload_n (pc := 17) (kt_tab_get kx_K_power 9 rfl) rfl <|
  sd_get (pc := 18) (k := 0) (ci := 6) kt_hc6 kt_hin6 (by decide) (kt_tab_get kx_K_power 10 rfl) (kg_K_power_in _ (List.mem_of_getElem? (i := 4) rfl)) <|
  sd_callV (pc := 21) km_T_comeOn (by decide) kv_T_comeOn (ci := 5) kt_hc5 (by decide) (kt_tab_get kx_K_power 11 rfl) (kg_K_power_in _ (List.mem_of_getElem? (i := 6) rfl)) <|
  sd_goto (pc := 24) (tgt := 34) (kt_tab_get kx_K_power 12 rfl) rfl (sd_drop (k := 0) kz_K_power_34)
noncomputable def kd_K_power_13 : kt_D := ki_iload 1 <| ki_if_eq (ki_drop 1 kd_K_power_27) (ki_drop 1 kd_K_power_17)
theorem kz_K_power_13 : kt_Snd l kt_shC kb_K_power 2 RX6 (some .boolean) 6 0 0 false false 13 kd_K_power_13 :=
  sd_iload_n (pc := 13) (kt_tab_get kx_K_power 7 rfl) rfl <|
  sd_if_eq (pc := 14) (tgt := 27) (kt_tab_get kx_K_power 8 rfl) rfl (sd_drop (k := 1) kz_K_power_27) (sd_drop (k := 1) kz_K_power_17)
noncomputable def kd_K_power_11 : kt_D := ki_push (.int 0) <| ki_zret
theorem kz_K_power_11 : kt_Snd l kt_shC kb_K_power 2 RX6 (some .boolean) 6 0 0 false false 11 kd_K_power_11 :=
  sd_iconst (pc := 11) (kt_tab_get kx_K_power 5 rfl) kc_i_0 <|
  sd_zret (pc := 12) rfl (by decide) (kt_tab_get kx_K_power 6 rfl)
noncomputable def kd_K_power_0 : kt_D := ki_aload 0 <| ki_get kt_shC 6 0 <| ki_get kt_shC 5 5 <| ki_iload 1 <| ki_icmp_ne kd_K_power_13 (ki_drop 1 (ki_drop 0 kd_K_power_11))
theorem kz_K_power_0 : kt_Snd l kt_shC kb_K_power 2 RX6 (some .boolean) 6 0 0 false false 0 kd_K_power_0 :=
  sd_aload_n (pc := 0) (kt_tab_get kx_K_power 0 rfl) rfl <|
  sd_get (pc := 1) (k := 0) (ci := 6) kt_hc6 kt_hin6 (by decide) (kt_tab_get kx_K_power 1 rfl) (kg_K_power_in _ (List.mem_of_getElem? (i := 4) rfl)) <|
  sd_getN (pc := 4) (k := 5) (ci := 5) kt_hc5 kt_hin5 (by decide) (kt_tab_get kx_K_power 2 rfl) (List.mem_of_getElem? (i := 6) rfl) <|
  sd_iload_n (pc := 7) (kt_tab_get kx_K_power 3 rfl) rfl <|
  sd_icmp_ne (pc := 8) (tgt := 13) (kt_tab_get kx_K_power 4 rfl) rfl kz_K_power_13 (sd_drop (k := 1) (sd_drop (k := 0) kz_K_power_11))
noncomputable def kf_K_power : kt_F := kt_run 2 kd_K_power_0
theorem km_K_power : kt_M l kt_shC ky_K_power kb_K_power 2 (some .boolean) 6 false kf_K_power := kt_method (by decide) rfl kz_K_power_0
noncomputable def kd_K_cut_14 : kt_D := ki_push (.int 0) <| ki_zret
theorem kz_K_cut_14 : kt_Snd l kt_shC kb_K_cut 2 RX6 (some .boolean) 0 0 0 false false 14 kd_K_cut_14 :=
  sd_iconst (pc := 14) (kt_tab_get kx_K_cut 6 rfl) kc_i_0 <|
  sd_zret (pc := 15) rfl (by decide) (kt_tab_get kx_K_cut 7 rfl)
noncomputable def kd_K_cut_16 : kt_D := ki_aload 0 <| ki_get kt_shC 6 0 <| ki_get kt_shC 5 0 <| ki_iload 1 <| ki_put kt_shC 4 2 0 <| ki_push (.int 1) <| ki_zret
theorem kz_K_cut_16 : kt_Snd l kt_shC kb_K_cut 2 RX6 (some .boolean) 0 0 0 false false 16 kd_K_cut_16 :=
  sd_aload_n (pc := 16) (kt_tab_get kx_K_cut 8 rfl) rfl <|
  sd_get (pc := 17) (k := 0) (ci := 6) kt_hc6 kt_hin6 (by decide) (kt_tab_get kx_K_cut 9 rfl) (kg_K_cut_in _ (List.mem_of_getElem? (i := 4) rfl)) <|
  sd_getN (pc := 20) (k := 0) (ci := 5) kt_hc5 kt_hin5 (by decide) (kt_tab_get kx_K_cut 10 rfl) (List.mem_of_getElem? (i := 10) rfl) <|
  sd_iload_n (pc := 23) (kt_tab_get kx_K_cut 11 rfl) rfl <|
  sd_putN (pc := 24) (k := 2) (ci := 4) kt_hc4 kt_hin4 tyX4_ok nmX4 (by decide) rfl rfl (Or.inl ⟨rfl, rfl⟩) (kt_tab_get kx_K_cut 12 rfl) (List.mem_of_getElem? (i := 11) rfl) <|
  sd_iconst (pc := 27) (kt_tab_get kx_K_cut 13 rfl) kc_i_1 <|
  sd_zret (pc := 28) rfl (by decide) (kt_tab_get kx_K_cut 14 rfl)
noncomputable def kd_K_cut_4 : kt_D := ki_aload 0 <| ki_get kt_shC 6 0 <| ki_get kt_shC 5 5 <| ki_if_ne kd_K_cut_16 (ki_drop 1 (ki_drop 0 kd_K_cut_14))
theorem kz_K_cut_4 : kt_Snd l kt_shC kb_K_cut 2 RX6 (some .boolean) 0 0 0 false false 4 kd_K_cut_4 :=
  sd_aload_n (pc := 4) (kt_tab_get kx_K_cut 2 rfl) rfl <|
  sd_get (pc := 5) (k := 0) (ci := 6) kt_hc6 kt_hin6 (by decide) (kt_tab_get kx_K_cut 3 rfl) (kg_K_cut_in _ (List.mem_of_getElem? (i := 4) rfl)) <|
  sd_getN (pc := 8) (k := 5) (ci := 5) kt_hc5 kt_hin5 (by decide) (kt_tab_get kx_K_cut 4 rfl) (List.mem_of_getElem? (i := 6) rfl) <|
  sd_if_ne (pc := 11) (tgt := 16) (kt_tab_get kx_K_cut 5 rfl) rfl kz_K_cut_16 (sd_drop (k := 1) (sd_drop (k := 0) kz_K_cut_14))
noncomputable def kd_K_cut_0 : kt_D := ki_iload 1 <| ki_if_lt (ki_drop 1 (ki_drop 0 kd_K_cut_14)) kd_K_cut_4
theorem kz_K_cut_0 : kt_Snd l kt_shC kb_K_cut 2 RX6 (some .boolean) 0 0 0 false false 0 kd_K_cut_0 :=
  sd_iload_n (pc := 0) (kt_tab_get kx_K_cut 0 rfl) rfl <|
  sd_if_lt (pc := 1) (tgt := 14) (kt_tab_get kx_K_cut 1 rfl) rfl (sd_drop (k := 1) (sd_drop (k := 0) kz_K_cut_14)) kz_K_cut_4
noncomputable def kf_K_cut : kt_F := kt_run 2 kd_K_cut_0
theorem km_K_cut : kt_M l kt_shC ky_K_cut kb_K_cut 2 (some .boolean) 0 false kf_K_cut := kt_method (by decide) rfl kz_K_cut_0
noncomputable def kd_K_partyAt_19 : kt_D := ki_aret
theorem kz_K_partyAt_19 : kt_Snd l kt_shC kb_K_partyAt 2 RX6 (some (.object "KeyToken$RelyingParty")) 0 0 0 true true 19 kd_K_partyAt_19 :=
  sd_aret (pc := 19) rfl (by decide) (kt_tab_get kx_K_partyAt 11 rfl)
noncomputable def kd_K_partyAt_18 : kt_D := ki_push .null <| kd_K_partyAt_19
theorem kz_K_partyAt_18 : kt_Snd l kt_shC kb_K_partyAt 2 RX6 (some (.object "KeyToken$RelyingParty")) 0 0 0 true true 18 kd_K_partyAt_18 :=
  sd_null (pc := 18) (kt_tab_get kx_K_partyAt 10 rfl) <|
  kz_K_partyAt_19
noncomputable def kd_K_partyAt_9 : kt_D := ki_aload 0 <| ki_get kt_shC 6 1 <| ki_iload 1 <| ki_aald kt_shC <| (ki_drop 1 (ki_drop 0 kd_K_partyAt_19))
theorem kz_K_partyAt_9 : kt_Snd l kt_shC kb_K_partyAt 2 RX6 (some (.object "KeyToken$RelyingParty")) 0 0 0 true true 9 kd_K_partyAt_9 :=
  sd_aload_n (pc := 9) (kt_tab_get kx_K_partyAt 5 rfl) rfl <|
  sd_get (pc := 10) (k := 1) (ci := 6) kt_hc6 kt_hin6 (by decide) (kt_tab_get kx_K_partyAt 6 rfl) (kg_K_partyAt_in _ (List.mem_of_getElem? (i := 4) rfl)) <|
  sd_iload_n (pc := 13) (kt_tab_get kx_K_partyAt 7 rfl) rfl <|
  sd_aald (pc := 14) (kt_tab_get kx_K_partyAt 8 rfl) <|
  sd_goto (pc := 15) (tgt := 19) (kt_tab_get kx_K_partyAt 9 rfl) rfl (sd_drop (k := 1) (sd_drop (k := 0) kz_K_partyAt_19))
noncomputable def kd_K_partyAt_4 : kt_D := ki_iload 1 <| ki_push (.int 4) <| ki_icmp_ge (ki_drop 1 (ki_drop 0 kd_K_partyAt_18)) kd_K_partyAt_9
theorem kz_K_partyAt_4 : kt_Snd l kt_shC kb_K_partyAt 2 RX6 (some (.object "KeyToken$RelyingParty")) 0 0 0 true true 4 kd_K_partyAt_4 :=
  sd_iload_n (pc := 4) (kt_tab_get kx_K_partyAt 2 rfl) rfl <|
  sd_iconst (pc := 5) (kt_tab_get kx_K_partyAt 3 rfl) kc_i_4 <|
  sd_icmp_ge (pc := 6) (tgt := 18) (kt_tab_get kx_K_partyAt 4 rfl) rfl (sd_drop (k := 1) (sd_drop (k := 0) kz_K_partyAt_18)) kz_K_partyAt_9
noncomputable def kd_K_partyAt_0 : kt_D := ki_iload 1 <| ki_if_lt (ki_drop 1 (ki_drop 0 kd_K_partyAt_18)) kd_K_partyAt_4
theorem kz_K_partyAt_0 : kt_Snd l kt_shC kb_K_partyAt 2 RX6 (some (.object "KeyToken$RelyingParty")) 0 0 0 true true 0 kd_K_partyAt_0 :=
  sd_iload_n (pc := 0) (kt_tab_get kx_K_partyAt 0 rfl) rfl <|
  sd_if_lt (pc := 1) (tgt := 18) (kt_tab_get kx_K_partyAt 1 rfl) rfl (sd_drop (k := 1) (sd_drop (k := 0) kz_K_partyAt_18)) kz_K_partyAt_4
noncomputable def kf_K_partyAt : kt_F := kt_run 2 kd_K_partyAt_0
theorem km_K_partyAt : kt_M l kt_shC ky_K_partyAt kb_K_partyAt 2 (some (.object "KeyToken$RelyingParty")) 0 true kf_K_partyAt := kt_method (by decide) rfl kz_K_partyAt_0
noncomputable def kd_K_open_20 : kt_D := ki_throw 3
theorem kz_K_open_20 (hf : l.flags = pinnedFlags ++ [noTraceFlag]) : kt_Snd l kt_shC kb_K_open 4 RX6 (some .int) 6 1 6 true false 20 kd_K_open_20 :=
  sd_throw (pc := 20) (n := 3) hf rfl (by decide) rfl (by decide) (by decide) (by decide) (kt_tab_get kx_K_open 11 rfl) (kt_tab_get kx_K_open 12 rfl) (kt_tab_get kx_K_open 13 rfl) (kt_tab_get kx_K_open 14 rfl) (kt_tab_get kx_K_open 15 rfl) (kg_K_open_in _ (List.mem_of_getElem? (i := 4) rfl)) (kg_K_open_in _ (List.mem_of_getElem? (i := 5) rfl)) (kg_K_open_in _ (List.mem_of_getElem? (i := 6) rfl)) (k := 3) rfl kt_tw_3
noncomputable def kd_K_open_30 : kt_D := ki_aload 0 <| ki_dup <| ki_get kt_shC 6 2 <| ki_push (.int 1) <| ki_iadd <| ki_put kt_shC 6 2 0 <| ki_aload 3 <| ki_aload 0 <| ki_get kt_shC 6 2 <| ki_put kt_shC 1 5 0 <| ki_aload 3 <| ki_iload 2 <| ki_put kt_shC 1 6 0 <| ki_aload 0 <| ki_get kt_shC 6 2 <| ki_iret
theorem kz_K_open_30 (hf : l.flags = pinnedFlags ++ [noTraceFlag]) : kt_Snd l kt_shC kb_K_open 4 RX6 (some .int) 6 1 6 true false 30 kd_K_open_30 :=
  sd_aload_n (pc := 30) (kt_tab_get kx_K_open 16 rfl) rfl <|
  sd_dup (pc := 31) (kt_tab_get kx_K_open 17 rfl) <|
  sd_get (pc := 32) (k := 2) (ci := 6) kt_hc6 kt_hin6 (by decide) (kt_tab_get kx_K_open 18 rfl) (kg_K_open_in _ (List.mem_of_getElem? (i := 7) rfl)) <|
  sd_iconst (pc := 35) (kt_tab_get kx_K_open 19 rfl) kc_i_1 <|
  sd_iadd (pc := 36) (kt_tab_get kx_K_open 20 rfl) <|
  sd_put (pc := 37) (k := 2) (ci := 6) kt_hc6 kt_hin6 tyX6_ok nmX6 (by decide) rfl rfl (Or.inl ⟨rfl, rfl⟩) (kt_tab_get kx_K_open 21 rfl) (kg_K_open_in _ (List.mem_of_getElem? (i := 7) rfl)) <|
  sd_aload_n (pc := 40) (kt_tab_get kx_K_open 22 rfl) rfl <|
  sd_aload_n (pc := 41) (kt_tab_get kx_K_open 23 rfl) rfl <|
  sd_get (pc := 42) (k := 2) (ci := 6) kt_hc6 kt_hin6 (by decide) (kt_tab_get kx_K_open 24 rfl) (kg_K_open_in _ (List.mem_of_getElem? (i := 7) rfl)) <|
  sd_putN (pc := 45) (k := 5) (ci := 1) kt_hc1 kt_hin1 tyX1_ok nmX1 (by decide) rfl rfl (Or.inl ⟨rfl, rfl⟩) (kt_tab_get kx_K_open 25 rfl) (List.mem_of_getElem? (i := 12) rfl) <|
  sd_aload_n (pc := 48) (kt_tab_get kx_K_open 26 rfl) rfl <|
  sd_iload_n (pc := 49) (kt_tab_get kx_K_open 27 rfl) rfl <|
  sd_putN (pc := 50) (k := 6) (ci := 1) kt_hc1 kt_hin1 tyX1_ok nmX1 (by decide) rfl rfl (Or.inl ⟨rfl, rfl⟩) (kt_tab_get kx_K_open 28 rfl) (List.mem_of_getElem? (i := 13) rfl) <|
  sd_aload_n (pc := 53) (kt_tab_get kx_K_open 29 rfl) rfl <|
  sd_get (pc := 54) (k := 2) (ci := 6) kt_hc6 kt_hin6 (by decide) (kt_tab_get kx_K_open 30 rfl) (kg_K_open_in _ (List.mem_of_getElem? (i := 7) rfl)) <|
  sd_iret (pc := 57) rfl (by decide) (kt_tab_get kx_K_open 31 rfl)
noncomputable def kd_K_open_14 : kt_D := ki_iload 2 <| ki_push (.int 99) <| ki_icmp_le kd_K_open_30 (ki_drop 3 (ki_drop 2 (ki_drop 0 kd_K_open_20)))
theorem kz_K_open_14 (hf : l.flags = pinnedFlags ++ [noTraceFlag]) : kt_Snd l kt_shC kb_K_open 4 RX6 (some .int) 6 1 6 true false 14 kd_K_open_14 :=
  sd_iload_n (pc := 14) (kt_tab_get kx_K_open 8 rfl) rfl <|
  sd_bipush (pc := 15) (kt_tab_get kx_K_open 9 rfl) kc_b_99 <|
  sd_icmp_le (pc := 17) (tgt := 30) (kt_tab_get kx_K_open 10 rfl) rfl (kz_K_open_30 hf) (sd_drop (k := 3) (sd_drop (k := 2) (sd_drop (k := 0) (kz_K_open_20 hf))))
noncomputable def kd_K_open_10 : kt_D := ki_iload 2 <| ki_if_lt (ki_drop 3 (ki_drop 2 (ki_drop 0 kd_K_open_20))) kd_K_open_14
theorem kz_K_open_10 (hf : l.flags = pinnedFlags ++ [noTraceFlag]) : kt_Snd l kt_shC kb_K_open 4 RX6 (some .int) 6 1 6 true false 10 kd_K_open_10 :=
  sd_iload_n (pc := 10) (kt_tab_get kx_K_open 6 rfl) rfl <|
  sd_if_lt (pc := 11) (tgt := 20) (kt_tab_get kx_K_open 7 rfl) rfl (sd_drop (k := 3) (sd_drop (k := 2) (sd_drop (k := 0) (kz_K_open_20 hf)))) (kz_K_open_14 hf)
noncomputable def kd_K_open_0 : kt_D := ki_aload 0 <| ki_iload 1 <| ki_callV kt_shC 6 1 kf_K_partyAt <| ki_astore 3 <| ki_aload 3 <| ki_ifnull (ki_drop 3 (ki_drop 2 (ki_drop 1 (ki_drop 0 kd_K_open_20)))) (ki_drop 1 kd_K_open_10)
theorem kz_K_open_0 (hf : l.flags = pinnedFlags ++ [noTraceFlag]) : kt_Snd l kt_shC kb_K_open 4 RX6 (some .int) 6 1 6 true false 0 kd_K_open_0 :=
  sd_aload_n (pc := 0) (kt_tab_get kx_K_open 0 rfl) rfl <|
  sd_iload_n (pc := 1) (kt_tab_get kx_K_open 1 rfl) rfl <|
  sd_callV (pc := 2) km_K_partyAt (by decide) kv_K_partyAt (ci := 6) kt_hc6 (by decide) (kt_tab_get kx_K_open 2 rfl) (kg_K_open_in _ (List.mem_of_getElem? (i := 8) rfl)) <|
  sd_astore_n (pc := 5) (kt_tab_get kx_K_open 3 rfl) rfl (by decide) <|
  sd_aload_n (pc := 6) (kt_tab_get kx_K_open 4 rfl) rfl <|
  sd_ifnull (pc := 7) (tgt := 20) (kt_tab_get kx_K_open 5 rfl) rfl (sd_drop (k := 3) (sd_drop (k := 2) (sd_drop (k := 1) (sd_drop (k := 0) (kz_K_open_20 hf))))) (sd_drop (k := 1) (kz_K_open_10 hf))
noncomputable def kf_K_open : kt_F := kt_run 4 kd_K_open_0
theorem km_K_open (hf : l.flags = pinnedFlags ++ [noTraceFlag]) : kt_MT l kt_shC ky_K_open kb_K_open 4 (some .int) 6 1 6 kf_K_open := kt_methodT (by decide) rfl (kz_K_open_0 hf)
noncomputable def kd_K_writeOrigin_0 : kt_D := ki_aload 0 <| ki_push (.int 0) <| ki_iload 1 <| ki_callV kt_shC 0 2 kf_B_addHead <| ki_aload 0 <| ki_push (.int 3) <| ki_push (.int 1) <| ki_callV kt_shC 0 2 kf_B_addHead <| ki_aload 0 <| ki_push (.int 97) <| ki_iload 2 <| ki_iadd <| ki_callV kt_shC 0 1 kf_B_add <| ki_vret
theorem kz_K_writeOrigin_0 : kt_Snd l kt_shC kb_K_writeOrigin 3 RX6 none 2 0 0 false false 0 kd_K_writeOrigin_0 :=
  sd_aload_n (pc := 0) (kt_tab_get kx_K_writeOrigin 0 rfl) rfl <|
  sd_iconst (pc := 1) (kt_tab_get kx_K_writeOrigin 1 rfl) kc_i_0 <|
  sd_iload_n (pc := 2) (kt_tab_get kx_K_writeOrigin 2 rfl) rfl <|
  sd_callV (pc := 3) km_B_addHead (by decide) kv_B_addHead (ci := 0) kt_hc0 (by decide) (kt_tab_get kx_K_writeOrigin 3 rfl) (kg_K_writeOrigin_in _ (List.mem_of_getElem? (i := 3) rfl)) <|
  sd_aload_n (pc := 6) (kt_tab_get kx_K_writeOrigin 4 rfl) rfl <|
  sd_iconst (pc := 7) (kt_tab_get kx_K_writeOrigin 5 rfl) kc_i_3 <|
  sd_iconst (pc := 8) (kt_tab_get kx_K_writeOrigin 6 rfl) kc_i_1 <|
  sd_callV (pc := 9) km_B_addHead (by decide) kv_B_addHead (ci := 0) kt_hc0 (by decide) (kt_tab_get kx_K_writeOrigin 7 rfl) (kg_K_writeOrigin_in _ (List.mem_of_getElem? (i := 3) rfl)) <|
  sd_aload_n (pc := 12) (kt_tab_get kx_K_writeOrigin 8 rfl) rfl <|
  sd_bipush (pc := 13) (kt_tab_get kx_K_writeOrigin 9 rfl) kc_b_97 <|
  sd_iload_n (pc := 15) (kt_tab_get kx_K_writeOrigin 10 rfl) rfl <|
  sd_iadd (pc := 16) (kt_tab_get kx_K_writeOrigin 11 rfl) <|
  sd_callV (pc := 17) km_B_add (by decide) kv_B_add (ci := 0) kt_hc0 (by decide) (kt_tab_get kx_K_writeOrigin 12 rfl) (kg_K_writeOrigin_in _ (List.mem_of_getElem? (i := 4) rfl)) <|
  sd_vret (pc := 20) rfl (by decide) (kt_tab_get kx_K_writeOrigin 13 rfl)
noncomputable def kf_K_writeOrigin : kt_F := kt_run 3 kd_K_writeOrigin_0
theorem km_K_writeOrigin : kt_M l kt_shC ky_K_writeOrigin kb_K_writeOrigin 3 none 2 false kf_K_writeOrigin := kt_method (by decide) rfl kz_K_writeOrigin_0
noncomputable def kd_K_writeMake_55 : kt_D := ki_vret
theorem kz_K_writeMake_55 : kt_Snd l kt_shC kb_K_writeMake 5 RX6 none 3 0 0 false false 55 kd_K_writeMake_55 :=
  sd_vret (pc := 55) rfl (by decide) (kt_tab_get kx_K_writeMake 31 rfl)
noncomputable def kd_K_writeMake_47 : kt_D := ki_aload 0 <| ki_push (.int 8) <| ki_iload 4 <| ki_callV kt_shC 0 2 kf_B_addPair <| (ki_drop 4 (ki_drop 0 kd_K_writeMake_55))
theorem kz_K_writeMake_47 : kt_Snd l kt_shC kb_K_writeMake 5 RX6 none 3 0 0 false false 47 kd_K_writeMake_47 :=
  sd_aload_n (pc := 47) (kt_tab_get kx_K_writeMake 27 rfl) rfl <|
  sd_bipush (pc := 48) (kt_tab_get kx_K_writeMake 28 rfl) kc_b_8 <|
  sd_iload (pc := 50) (kt_tab_get kx_K_writeMake 29 rfl) <|
  sd_callV (pc := 52) km_B_addPair (by decide) kv_B_addPair (ci := 0) kt_hc0 (by decide) (kt_tab_get kx_K_writeMake 30 rfl) (kg_K_writeMake_in _ (List.mem_of_getElem? (i := 3) rfl)) <|
  (sd_drop (k := 4) (sd_drop (k := 0) kz_K_writeMake_55))
noncomputable def kd_K_writeMake_21 : kt_D := ki_callV kt_shC 0 2 kf_B_addHead <| ki_aload 0 <| ki_push (.int 1) <| ki_iload 1 <| ki_callV kt_shC 0 2 kf_B_addPair <| ki_aload 0 <| ki_push (.int 2) <| ki_iload 2 <| ki_callS 3 kf_K_writeOrigin <| ki_aload 0 <| ki_push (.int 3) <| ki_iload 3 <| ki_callV kt_shC 0 2 kf_B_addPair <| ki_iload 4 <| ki_if_le (ki_drop 4 (ki_drop 3 (ki_drop 2 (ki_drop 1 (ki_drop 0 kd_K_writeMake_55))))) (ki_drop 3 (ki_drop 2 (ki_drop 1 kd_K_writeMake_47)))
theorem kz_K_writeMake_21 : kt_Snd l kt_shC kb_K_writeMake 5 RX6 none 3 0 0 false false 21 kd_K_writeMake_21 :=
  sd_callV (pc := 21) km_B_addHead (by decide) kv_B_addHead (ci := 0) kt_hc0 (by decide) (kt_tab_get kx_K_writeMake 12 rfl) (kg_K_writeMake_in _ (List.mem_of_getElem? (i := 4) rfl)) <|
  sd_aload_n (pc := 24) (kt_tab_get kx_K_writeMake 13 rfl) rfl <|
  sd_iconst (pc := 25) (kt_tab_get kx_K_writeMake 14 rfl) kc_i_1 <|
  sd_iload_n (pc := 26) (kt_tab_get kx_K_writeMake 15 rfl) rfl <|
  sd_callV (pc := 27) km_B_addPair (by decide) kv_B_addPair (ci := 0) kt_hc0 (by decide) (kt_tab_get kx_K_writeMake 16 rfl) (kg_K_writeMake_in _ (List.mem_of_getElem? (i := 3) rfl)) <|
  sd_aload_n (pc := 30) (kt_tab_get kx_K_writeMake 17 rfl) rfl <|
  sd_iconst (pc := 31) (kt_tab_get kx_K_writeMake 18 rfl) kc_i_2 <|
  sd_iload_n (pc := 32) (kt_tab_get kx_K_writeMake 19 rfl) rfl <|
  sd_callS (pc := 33) km_K_writeOrigin (by decide) kv_K_writeOrigin (by decide) (kt_tab_get kx_K_writeMake 20 rfl) (kg_K_writeMake_in _ (List.mem_of_getElem? (i := 5) rfl)) <|
  sd_aload_n (pc := 36) (kt_tab_get kx_K_writeMake 21 rfl) rfl <|
  sd_iconst (pc := 37) (kt_tab_get kx_K_writeMake 22 rfl) kc_i_3 <|
  sd_iload_n (pc := 38) (kt_tab_get kx_K_writeMake 23 rfl) rfl <|
  sd_callV (pc := 39) km_B_addPair (by decide) kv_B_addPair (ci := 0) kt_hc0 (by decide) (kt_tab_get kx_K_writeMake 24 rfl) (kg_K_writeMake_in _ (List.mem_of_getElem? (i := 3) rfl)) <|
  sd_iload (pc := 42) (kt_tab_get kx_K_writeMake 25 rfl) <|
  sd_if_le (pc := 44) (tgt := 55) (kt_tab_get kx_K_writeMake 26 rfl) rfl (sd_drop (k := 4) (sd_drop (k := 3) (sd_drop (k := 2) (sd_drop (k := 1) (sd_drop (k := 0) kz_K_writeMake_55))))) (sd_drop (k := 3) (sd_drop (k := 2) (sd_drop (k := 1) kz_K_writeMake_47)))
noncomputable def kd_K_writeMake_20 : kt_D := ki_push (.int 3) <| kd_K_writeMake_21
theorem kz_K_writeMake_20 : kt_Snd l kt_shC kb_K_writeMake 5 RX6 none 3 0 0 false false 20 kd_K_writeMake_20 :=
  sd_iconst (pc := 20) (kt_tab_get kx_K_writeMake 11 rfl) kc_i_3 <|
  kz_K_writeMake_21
noncomputable def kd_K_writeMake_16 : kt_D := ki_push (.int 4) <| kd_K_writeMake_21
theorem kz_K_writeMake_16 : kt_Snd l kt_shC kb_K_writeMake 5 RX6 none 3 0 0 false false 16 kd_K_writeMake_16 :=
  sd_iconst (pc := 16) (kt_tab_get kx_K_writeMake 9 rfl) kc_i_4 <|
  sd_goto (pc := 17) (tgt := 21) (kt_tab_get kx_K_writeMake 10 rfl) rfl kz_K_writeMake_21
noncomputable def kd_K_writeMake_0 : kt_D := ki_aload 0 <| ki_callV kt_shC 0 0 kf_B_clear <| ki_aload 0 <| ki_push (.int 1) <| ki_callV kt_shC 0 1 kf_B_add <| ki_aload 0 <| ki_push (.int 5) <| ki_iload 4 <| ki_if_le kd_K_writeMake_20 kd_K_writeMake_16
theorem kz_K_writeMake_0 : kt_Snd l kt_shC kb_K_writeMake 5 RX6 none 3 0 0 false false 0 kd_K_writeMake_0 :=
  sd_aload_n (pc := 0) (kt_tab_get kx_K_writeMake 0 rfl) rfl <|
  sd_callV (pc := 1) km_B_clear (by decide) kv_B_clear (ci := 0) kt_hc0 (by decide) (kt_tab_get kx_K_writeMake 1 rfl) (kg_K_writeMake_in _ (List.mem_of_getElem? (i := 6) rfl)) <|
  sd_aload_n (pc := 4) (kt_tab_get kx_K_writeMake 2 rfl) rfl <|
  sd_iconst (pc := 5) (kt_tab_get kx_K_writeMake 3 rfl) kc_i_1 <|
  sd_callV (pc := 6) km_B_add (by decide) kv_B_add (ci := 0) kt_hc0 (by decide) (kt_tab_get kx_K_writeMake 4 rfl) (kg_K_writeMake_in _ (List.mem_of_getElem? (i := 7) rfl)) <|
  sd_aload_n (pc := 9) (kt_tab_get kx_K_writeMake 5 rfl) rfl <|
  sd_iconst (pc := 10) (kt_tab_get kx_K_writeMake 6 rfl) kc_i_5 <|
  sd_iload (pc := 11) (kt_tab_get kx_K_writeMake 7 rfl) <|
  sd_if_le (pc := 13) (tgt := 20) (kt_tab_get kx_K_writeMake 8 rfl) rfl kz_K_writeMake_20 kz_K_writeMake_16
noncomputable def kf_K_writeMake : kt_F := kt_run 5 kd_K_writeMake_0
theorem km_K_writeMake : kt_M l kt_shC ky_K_writeMake kb_K_writeMake 5 none 3 false kf_K_writeMake := kt_method (by decide) rfl kz_K_writeMake_0
noncomputable def kd_K_writeAssert_46 : kt_D := ki_vret
theorem kz_K_writeAssert_46 : kt_Snd l kt_shC kb_K_writeAssert 4 RX6 none 3 0 0 false false 46 kd_K_writeAssert_46 :=
  sd_vret (pc := 46) rfl (by decide) (kt_tab_get kx_K_writeAssert 27 rfl)
noncomputable def kd_K_writeAssert_39 : kt_D := ki_aload 0 <| ki_push (.int 6) <| ki_iload 3 <| ki_callV kt_shC 0 2 kf_B_addPair <| (ki_drop 3 (ki_drop 0 kd_K_writeAssert_46))
theorem kz_K_writeAssert_39 : kt_Snd l kt_shC kb_K_writeAssert 4 RX6 none 3 0 0 false false 39 kd_K_writeAssert_39 :=
  sd_aload_n (pc := 39) (kt_tab_get kx_K_writeAssert 23 rfl) rfl <|
  sd_bipush (pc := 40) (kt_tab_get kx_K_writeAssert 24 rfl) kc_b_6 <|
  sd_iload_n (pc := 42) (kt_tab_get kx_K_writeAssert 25 rfl) rfl <|
  sd_callV (pc := 43) km_B_addPair (by decide) kv_B_addPair (ci := 0) kt_hc0 (by decide) (kt_tab_get kx_K_writeAssert 26 rfl) (kg_K_writeAssert_in _ (List.mem_of_getElem? (i := 3) rfl)) <|
  (sd_drop (k := 3) (sd_drop (k := 0) kz_K_writeAssert_46))
noncomputable def kd_K_writeAssert_20 : kt_D := ki_callV kt_shC 0 2 kf_B_addHead <| ki_aload 0 <| ki_push (.int 1) <| ki_iload 2 <| ki_callS 3 kf_K_writeOrigin <| ki_aload 0 <| ki_push (.int 2) <| ki_iload 1 <| ki_callV kt_shC 0 2 kf_B_addPair <| ki_iload 3 <| ki_if_le (ki_drop 3 (ki_drop 2 (ki_drop 1 (ki_drop 0 kd_K_writeAssert_46)))) (ki_drop 2 (ki_drop 1 kd_K_writeAssert_39))
theorem kz_K_writeAssert_20 : kt_Snd l kt_shC kb_K_writeAssert 4 RX6 none 3 0 0 false false 20 kd_K_writeAssert_20 :=
  sd_callV (pc := 20) km_B_addHead (by decide) kv_B_addHead (ci := 0) kt_hc0 (by decide) (kt_tab_get kx_K_writeAssert 12 rfl) (kg_K_writeAssert_in _ (List.mem_of_getElem? (i := 4) rfl)) <|
  sd_aload_n (pc := 23) (kt_tab_get kx_K_writeAssert 13 rfl) rfl <|
  sd_iconst (pc := 24) (kt_tab_get kx_K_writeAssert 14 rfl) kc_i_1 <|
  sd_iload_n (pc := 25) (kt_tab_get kx_K_writeAssert 15 rfl) rfl <|
  sd_callS (pc := 26) km_K_writeOrigin (by decide) kv_K_writeOrigin (by decide) (kt_tab_get kx_K_writeAssert 16 rfl) (kg_K_writeAssert_in _ (List.mem_of_getElem? (i := 5) rfl)) <|
  sd_aload_n (pc := 29) (kt_tab_get kx_K_writeAssert 17 rfl) rfl <|
  sd_iconst (pc := 30) (kt_tab_get kx_K_writeAssert 18 rfl) kc_i_2 <|
  sd_iload_n (pc := 31) (kt_tab_get kx_K_writeAssert 19 rfl) rfl <|
  sd_callV (pc := 32) km_B_addPair (by decide) kv_B_addPair (ci := 0) kt_hc0 (by decide) (kt_tab_get kx_K_writeAssert 20 rfl) (kg_K_writeAssert_in _ (List.mem_of_getElem? (i := 3) rfl)) <|
  sd_iload_n (pc := 35) (kt_tab_get kx_K_writeAssert 21 rfl) rfl <|
  sd_if_le (pc := 36) (tgt := 46) (kt_tab_get kx_K_writeAssert 22 rfl) rfl (sd_drop (k := 3) (sd_drop (k := 2) (sd_drop (k := 1) (sd_drop (k := 0) kz_K_writeAssert_46)))) (sd_drop (k := 2) (sd_drop (k := 1) kz_K_writeAssert_39))
noncomputable def kd_K_writeAssert_19 : kt_D := ki_push (.int 2) <| kd_K_writeAssert_20
theorem kz_K_writeAssert_19 : kt_Snd l kt_shC kb_K_writeAssert 4 RX6 none 3 0 0 false false 19 kd_K_writeAssert_19 :=
  sd_iconst (pc := 19) (kt_tab_get kx_K_writeAssert 11 rfl) kc_i_2 <|
  kz_K_writeAssert_20
noncomputable def kd_K_writeAssert_15 : kt_D := ki_push (.int 3) <| kd_K_writeAssert_20
theorem kz_K_writeAssert_15 : kt_Snd l kt_shC kb_K_writeAssert 4 RX6 none 3 0 0 false false 15 kd_K_writeAssert_15 :=
  sd_iconst (pc := 15) (kt_tab_get kx_K_writeAssert 9 rfl) kc_i_3 <|
  sd_goto (pc := 16) (tgt := 20) (kt_tab_get kx_K_writeAssert 10 rfl) rfl kz_K_writeAssert_20
noncomputable def kd_K_writeAssert_0 : kt_D := ki_aload 0 <| ki_callV kt_shC 0 0 kf_B_clear <| ki_aload 0 <| ki_push (.int 2) <| ki_callV kt_shC 0 1 kf_B_add <| ki_aload 0 <| ki_push (.int 5) <| ki_iload 3 <| ki_if_le kd_K_writeAssert_19 kd_K_writeAssert_15
theorem kz_K_writeAssert_0 : kt_Snd l kt_shC kb_K_writeAssert 4 RX6 none 3 0 0 false false 0 kd_K_writeAssert_0 :=
  sd_aload_n (pc := 0) (kt_tab_get kx_K_writeAssert 0 rfl) rfl <|
  sd_callV (pc := 1) km_B_clear (by decide) kv_B_clear (ci := 0) kt_hc0 (by decide) (kt_tab_get kx_K_writeAssert 1 rfl) (kg_K_writeAssert_in _ (List.mem_of_getElem? (i := 6) rfl)) <|
  sd_aload_n (pc := 4) (kt_tab_get kx_K_writeAssert 2 rfl) rfl <|
  sd_iconst (pc := 5) (kt_tab_get kx_K_writeAssert 3 rfl) kc_i_2 <|
  sd_callV (pc := 6) km_B_add (by decide) kv_B_add (ci := 0) kt_hc0 (by decide) (kt_tab_get kx_K_writeAssert 4 rfl) (kg_K_writeAssert_in _ (List.mem_of_getElem? (i := 7) rfl)) <|
  sd_aload_n (pc := 9) (kt_tab_get kx_K_writeAssert 5 rfl) rfl <|
  sd_iconst (pc := 10) (kt_tab_get kx_K_writeAssert 6 rfl) kc_i_5 <|
  sd_iload_n (pc := 11) (kt_tab_get kx_K_writeAssert 7 rfl) rfl <|
  sd_if_le (pc := 12) (tgt := 19) (kt_tab_get kx_K_writeAssert 8 rfl) rfl kz_K_writeAssert_19 kz_K_writeAssert_15
noncomputable def kf_K_writeAssert : kt_F := kt_run 4 kd_K_writeAssert_0
theorem km_K_writeAssert : kt_M l kt_shC ky_K_writeAssert kb_K_writeAssert 4 none 3 false kf_K_writeAssert := kt_method (by decide) rfl kz_K_writeAssert_0
noncomputable def kd_K_alteredField_29 : kt_D := ki_iret
theorem kz_K_alteredField_29 : kt_Snd l kt_shC kb_K_alteredField 6 RX6 (some .int) 2 0 0 true true 29 kd_K_alteredField_29 :=
  sd_iret (pc := 29) rfl (by decide) (kt_tab_get kx_K_alteredField 15 rfl)
noncomputable def kd_K_alteredField_27 : kt_D := ki_iload 5 <| (ki_drop 5 kd_K_alteredField_29)
theorem kz_K_alteredField_27 : kt_Snd l kt_shC kb_K_alteredField 6 RX6 (some .int) 2 0 0 true true 27 kd_K_alteredField_27 :=
  sd_iload (pc := 27) (kt_tab_get kx_K_alteredField 14 rfl) <|
  (sd_drop (k := 5) kz_K_alteredField_29)
noncomputable def kd_K_alteredField_19 : kt_D := ki_iload 5 <| ki_iload 4 <| ki_iadd <| (ki_drop 5 (ki_drop 4 kd_K_alteredField_29))
theorem kz_K_alteredField_19 : kt_Snd l kt_shC kb_K_alteredField 6 RX6 (some .int) 2 0 0 true true 19 kd_K_alteredField_19 :=
  sd_iload (pc := 19) (kt_tab_get kx_K_alteredField 10 rfl) <|
  sd_iload (pc := 21) (kt_tab_get kx_K_alteredField 11 rfl) <|
  sd_iadd (pc := 23) (kt_tab_get kx_K_alteredField 12 rfl) <|
  sd_goto (pc := 24) (tgt := 29) (kt_tab_get kx_K_alteredField 13 rfl) rfl (sd_drop (k := 5) (sd_drop (k := 4) kz_K_alteredField_29))
noncomputable def kd_K_alteredField_0 : kt_D := ki_aload 0 <| ki_get kt_shC 6 0 <| ki_get kt_shC 5 1 <| ki_iload 1 <| ki_iload 2 <| ki_callV kt_shC 3 2 kf_G_field <| ki_istore 5 <| ki_iload 2 <| ki_iload 3 <| ki_icmp_ne (ki_drop 4 (ki_drop 3 (ki_drop 2 (ki_drop 1 (ki_drop 0 kd_K_alteredField_27))))) (ki_drop 3 (ki_drop 2 (ki_drop 1 (ki_drop 0 kd_K_alteredField_19))))
theorem kz_K_alteredField_0 : kt_Snd l kt_shC kb_K_alteredField 6 RX6 (some .int) 2 0 0 true true 0 kd_K_alteredField_0 :=
  sd_aload_n (pc := 0) (kt_tab_get kx_K_alteredField 0 rfl) rfl <|
  sd_get (pc := 1) (k := 0) (ci := 6) kt_hc6 kt_hin6 (by decide) (kt_tab_get kx_K_alteredField 1 rfl) (kg_K_alteredField_in _ (List.mem_of_getElem? (i := 4) rfl)) <|
  sd_getN (pc := 4) (k := 1) (ci := 5) kt_hc5 kt_hin5 (by decide) (kt_tab_get kx_K_alteredField 2 rfl) (List.mem_of_getElem? (i := 14) rfl) <|
  sd_iload_n (pc := 7) (kt_tab_get kx_K_alteredField 3 rfl) rfl <|
  sd_iload_n (pc := 8) (kt_tab_get kx_K_alteredField 4 rfl) rfl <|
  sd_callV (pc := 9) km_G_field (by decide) kv_G_field (ci := 3) kt_hc3 (by decide) (kt_tab_get kx_K_alteredField 5 rfl) (kg_K_alteredField_in _ (List.mem_of_getElem? (i := 5) rfl)) <|
  sd_istore (pc := 12) (kt_tab_get kx_K_alteredField 6 rfl) (by decide) <|
  sd_iload_n (pc := 14) (kt_tab_get kx_K_alteredField 7 rfl) rfl <|
  sd_iload_n (pc := 15) (kt_tab_get kx_K_alteredField 8 rfl) rfl <|
  sd_icmp_ne (pc := 16) (tgt := 27) (kt_tab_get kx_K_alteredField 9 rfl) rfl (sd_drop (k := 4) (sd_drop (k := 3) (sd_drop (k := 2) (sd_drop (k := 1) (sd_drop (k := 0) kz_K_alteredField_27))))) (sd_drop (k := 3) (sd_drop (k := 2) (sd_drop (k := 1) (sd_drop (k := 0) kz_K_alteredField_19))))
noncomputable def kf_K_alteredField : kt_F := kt_run 6 kd_K_alteredField_0
theorem km_K_alteredField : kt_M l kt_shC ky_K_alteredField kb_K_alteredField 6 (some .int) 2 true kf_K_alteredField := kt_method (by decide) rfl kz_K_alteredField_0
noncomputable def kd_K_judge_14 : kt_D := ki_istore 5 <| ki_aload 1 <| ki_aload 0 <| ki_iload 2 <| ki_push (.int 1) <| ki_iload 3 <| ki_iload 4 <| ki_callV kt_shC 6 4 kf_K_alteredField <| ki_aload 0 <| ki_iload 2 <| ki_push (.int 2) <| ki_iload 3 <| ki_iload 4 <| ki_callV kt_shC 6 4 kf_K_alteredField <| ki_aload 0 <| ki_iload 2 <| ki_push (.int 3) <| ki_iload 3 <| ki_iload 4 <| ki_callV kt_shC 6 4 kf_K_alteredField <| ki_aload 0 <| ki_iload 2 <| ki_push (.int 4) <| ki_iload 3 <| ki_iload 4 <| ki_callV kt_shC 6 4 kf_K_alteredField <| ki_aload 0 <| ki_iload 2 <| ki_push (.int 5) <| ki_iload 3 <| ki_iload 4 <| ki_callV kt_shC 6 4 kf_K_alteredField <| ki_iload 5 <| ki_callV kt_shC 1 6 kf_P_judge <| ki_iret
theorem kz_K_judge_14 : kt_Snd l kt_shC kb_K_judge 6 RX6 (some .int) 3 0 0 false false 14 kd_K_judge_14 :=
  sd_istore (pc := 14) (kt_tab_get kx_K_judge 7 rfl) (by decide) <|
  sd_aload_n (pc := 16) (kt_tab_get kx_K_judge 8 rfl) rfl <|
  sd_aload_n (pc := 17) (kt_tab_get kx_K_judge 9 rfl) rfl <|
  sd_iload_n (pc := 18) (kt_tab_get kx_K_judge 10 rfl) rfl <|
  sd_iconst (pc := 19) (kt_tab_get kx_K_judge 11 rfl) kc_i_1 <|
  sd_iload_n (pc := 20) (kt_tab_get kx_K_judge 12 rfl) rfl <|
  sd_iload (pc := 21) (kt_tab_get kx_K_judge 13 rfl) <|
  sd_callV (pc := 23) km_K_alteredField (by decide) kv_K_alteredField (ci := 6) kt_hc6 (by decide) (kt_tab_get kx_K_judge 14 rfl) (kg_K_judge_in _ (List.mem_of_getElem? (i := 4) rfl)) <|
  sd_aload_n (pc := 26) (kt_tab_get kx_K_judge 15 rfl) rfl <|
  sd_iload_n (pc := 27) (kt_tab_get kx_K_judge 16 rfl) rfl <|
  sd_iconst (pc := 28) (kt_tab_get kx_K_judge 17 rfl) kc_i_2 <|
  sd_iload_n (pc := 29) (kt_tab_get kx_K_judge 18 rfl) rfl <|
  sd_iload (pc := 30) (kt_tab_get kx_K_judge 19 rfl) <|
  sd_callV (pc := 32) km_K_alteredField (by decide) kv_K_alteredField (ci := 6) kt_hc6 (by decide) (kt_tab_get kx_K_judge 20 rfl) (kg_K_judge_in _ (List.mem_of_getElem? (i := 4) rfl)) <|
  sd_aload_n (pc := 35) (kt_tab_get kx_K_judge 21 rfl) rfl <|
  sd_iload_n (pc := 36) (kt_tab_get kx_K_judge 22 rfl) rfl <|
  sd_iconst (pc := 37) (kt_tab_get kx_K_judge 23 rfl) kc_i_3 <|
  sd_iload_n (pc := 38) (kt_tab_get kx_K_judge 24 rfl) rfl <|
  sd_iload (pc := 39) (kt_tab_get kx_K_judge 25 rfl) <|
  sd_callV (pc := 41) km_K_alteredField (by decide) kv_K_alteredField (ci := 6) kt_hc6 (by decide) (kt_tab_get kx_K_judge 26 rfl) (kg_K_judge_in _ (List.mem_of_getElem? (i := 4) rfl)) <|
  sd_aload_n (pc := 44) (kt_tab_get kx_K_judge 27 rfl) rfl <|
  sd_iload_n (pc := 45) (kt_tab_get kx_K_judge 28 rfl) rfl <|
  sd_iconst (pc := 46) (kt_tab_get kx_K_judge 29 rfl) kc_i_4 <|
  sd_iload_n (pc := 47) (kt_tab_get kx_K_judge 30 rfl) rfl <|
  sd_iload (pc := 48) (kt_tab_get kx_K_judge 31 rfl) <|
  sd_callV (pc := 50) km_K_alteredField (by decide) kv_K_alteredField (ci := 6) kt_hc6 (by decide) (kt_tab_get kx_K_judge 32 rfl) (kg_K_judge_in _ (List.mem_of_getElem? (i := 4) rfl)) <|
  sd_aload_n (pc := 53) (kt_tab_get kx_K_judge 33 rfl) rfl <|
  sd_iload_n (pc := 54) (kt_tab_get kx_K_judge 34 rfl) rfl <|
  sd_iconst (pc := 55) (kt_tab_get kx_K_judge 35 rfl) kc_i_5 <|
  sd_iload_n (pc := 56) (kt_tab_get kx_K_judge 36 rfl) rfl <|
  sd_iload (pc := 57) (kt_tab_get kx_K_judge 37 rfl) <|
  sd_callV (pc := 59) km_K_alteredField (by decide) kv_K_alteredField (ci := 6) kt_hc6 (by decide) (kt_tab_get kx_K_judge 38 rfl) (kg_K_judge_in _ (List.mem_of_getElem? (i := 4) rfl)) <|
  sd_iload (pc := 62) (kt_tab_get kx_K_judge 39 rfl) <|
  sd_callV (pc := 64) km_P_judge (by decide) kv_P_judge (ci := 1) kt_hc1 (by decide) (kt_tab_get kx_K_judge 40 rfl) (kg_K_judge_in _ (List.mem_of_getElem? (i := 5) rfl)) <|
  sd_iret (pc := 67) rfl (by decide) (kt_tab_get kx_K_judge 41 rfl)
noncomputable def kd_K_judge_13 : kt_D := ki_push (.int 0) <| kd_K_judge_14
theorem kz_K_judge_13 : kt_Snd l kt_shC kb_K_judge 6 RX6 (some .int) 3 0 0 false false 13 kd_K_judge_13 :=
  sd_iconst (pc := 13) (kt_tab_get kx_K_judge 6 rfl) kc_i_0 <|
  kz_K_judge_14
noncomputable def kd_K_judge_9 : kt_D := ki_push (.int 1) <| kd_K_judge_14
theorem kz_K_judge_9 : kt_Snd l kt_shC kb_K_judge 6 RX6 (some .int) 3 0 0 false false 9 kd_K_judge_9 :=
  sd_iconst (pc := 9) (kt_tab_get kx_K_judge 4 rfl) kc_i_1 <|
  sd_goto (pc := 10) (tgt := 14) (kt_tab_get kx_K_judge 5 rfl) rfl kz_K_judge_14
noncomputable def kd_K_judge_4 : kt_D := ki_iload 4 <| ki_if_eq kd_K_judge_13 kd_K_judge_9
theorem kz_K_judge_4 : kt_Snd l kt_shC kb_K_judge 6 RX6 (some .int) 3 0 0 false false 4 kd_K_judge_4 :=
  sd_iload (pc := 4) (kt_tab_get kx_K_judge 2 rfl) <|
  sd_if_eq (pc := 6) (tgt := 13) (kt_tab_get kx_K_judge 3 rfl) rfl kz_K_judge_13 kz_K_judge_9
noncomputable def kd_K_judge_0 : kt_D := ki_iload 3 <| ki_if_eq kd_K_judge_13 kd_K_judge_4
theorem kz_K_judge_0 : kt_Snd l kt_shC kb_K_judge 6 RX6 (some .int) 3 0 0 false false 0 kd_K_judge_0 :=
  sd_iload_n (pc := 0) (kt_tab_get kx_K_judge 0 rfl) rfl <|
  sd_if_eq (pc := 1) (tgt := 13) (kt_tab_get kx_K_judge 1 rfl) rfl kz_K_judge_13 kz_K_judge_4
noncomputable def kf_K_judge : kt_F := kt_run 6 kd_K_judge_0
theorem km_K_judge : kt_M l kt_shC ky_K_judge kb_K_judge 6 (some .int) 3 false kf_K_judge := kt_method (by decide) rfl kz_K_judge_0
noncomputable def kd_K_ceremony_20 : kt_D := ki_throw 3
theorem kz_K_ceremony_20 (hf : l.flags = pinnedFlags ++ [noTraceFlag]) : kt_Snd l kt_shC kb_K_ceremony 8 RX6 (some .int) 18 1 6 true false 20 kd_K_ceremony_20 :=
  sd_throw (pc := 20) (n := 3) hf rfl (by decide) rfl (by decide) (by decide) (by decide) (kt_tab_get kx_K_ceremony 10 rfl) (kt_tab_get kx_K_ceremony 11 rfl) (kt_tab_get kx_K_ceremony 12 rfl) (kt_tab_get kx_K_ceremony 13 rfl) (kt_tab_get kx_K_ceremony 14 rfl) (kg_K_ceremony_in _ (List.mem_of_getElem? (i := 4) rfl)) (kg_K_ceremony_in _ (List.mem_of_getElem? (i := 5) rfl)) (kg_K_ceremony_in _ (List.mem_of_getElem? (i := 6) rfl)) (k := 4) rfl kt_tw_3
noncomputable def kd_K_ceremony_48 : kt_D := ki_throw 0
theorem kz_K_ceremony_48 (hf : l.flags = pinnedFlags ++ [noTraceFlag]) : kt_Snd l kt_shC kb_K_ceremony 8 RX6 (some .int) 18 1 6 true false 48 kd_K_ceremony_48 :=
  sd_throw (pc := 48) (n := 0) hf rfl (by decide) rfl (by decide) (by decide) (by decide) (kt_tab_get kx_K_ceremony 22 rfl) (kt_tab_get kx_K_ceremony 23 rfl) (kt_tab_get kx_K_ceremony 24 rfl) (kt_tab_get kx_K_ceremony 25 rfl) (kt_tab_get kx_K_ceremony 26 rfl) (kg_K_ceremony_in _ (List.mem_of_getElem? (i := 7) rfl)) (kg_K_ceremony_in _ (List.mem_of_getElem? (i := 8) rfl)) (kg_K_ceremony_in _ (List.mem_of_getElem? (i := 9) rfl)) (k := 5) rfl kt_tw_0
noncomputable def kd_K_ceremony_156 : kt_D := ki_aload 0 <| ki_aload 5 <| ki_aload 0 <| ki_get kt_shC 6 0 <| ki_get kt_shC 5 1 <| ki_get kt_shC 3 1 <| ki_push (.int 0) <| ki_push (.int 0) <| ki_callV kt_shC 6 4 kf_K_judge <| ki_iret
theorem kz_K_ceremony_156 (hf : l.flags = pinnedFlags ++ [noTraceFlag]) : kt_Snd l kt_shC kb_K_ceremony 8 RX6 (some .int) 18 1 6 false false 156 kd_K_ceremony_156 :=
  sd_aload_n (pc := 156) (kt_tab_get kx_K_ceremony 74 rfl) rfl <|
  sd_aload (pc := 157) (kt_tab_get kx_K_ceremony 75 rfl) <|
  sd_aload_n (pc := 159) (kt_tab_get kx_K_ceremony 76 rfl) rfl <|
  sd_get (pc := 160) (k := 0) (ci := 6) kt_hc6 kt_hin6 (by decide) (kt_tab_get kx_K_ceremony 77 rfl) (kg_K_ceremony_in _ (List.mem_of_getElem? (i := 10) rfl)) <|
  sd_getN (pc := 163) (k := 1) (ci := 5) kt_hc5 kt_hin5 (by decide) (kt_tab_get kx_K_ceremony 78 rfl) (List.mem_of_getElem? (i := 14) rfl) <|
  sd_getN (pc := 166) (k := 1) (ci := 3) kt_hc3 kt_hin3 (by decide) (kt_tab_get kx_K_ceremony 79 rfl) (List.mem_of_getElem? (i := 15) rfl) <|
  sd_iconst (pc := 169) (kt_tab_get kx_K_ceremony 80 rfl) kc_i_0 <|
  sd_iconst (pc := 170) (kt_tab_get kx_K_ceremony 81 rfl) kc_i_0 <|
  sd_callV (pc := 171) km_K_judge (by decide) kv_K_judge (ci := 6) kt_hc6 (by decide) (kt_tab_get kx_K_ceremony 82 rfl) (kg_K_ceremony_in _ (List.mem_of_getElem? (i := 11) rfl)) <|
  sd_iret (pc := 174) rfl (by decide) (kt_tab_get kx_K_ceremony 83 rfl)
noncomputable def kd_K_ceremony_150 : kt_D := ki_push (.int 100) <| ki_iload 7 <| ki_iadd <| ki_iret
theorem kz_K_ceremony_150 (hf : l.flags = pinnedFlags ++ [noTraceFlag]) : kt_Snd l kt_shC kb_K_ceremony 8 RX6 (some .int) 18 1 6 false false 150 kd_K_ceremony_150 :=
  sd_bipush (pc := 150) (kt_tab_get kx_K_ceremony 70 rfl) kc_b_100 <|
  sd_iload (pc := 152) (kt_tab_get kx_K_ceremony 71 rfl) <|
  sd_iadd (pc := 154) (kt_tab_get kx_K_ceremony 72 rfl) <|
  sd_iret (pc := 155) rfl (by decide) (kt_tab_get kx_K_ceremony 73 rfl)
noncomputable def kd_K_ceremony_145 : kt_D := ki_iload 7 <| ki_if_eq (ki_drop 7 kd_K_ceremony_156) (ki_drop 5 (ki_drop 0 kd_K_ceremony_150))
theorem kz_K_ceremony_145 (hf : l.flags = pinnedFlags ++ [noTraceFlag]) : kt_Snd l kt_shC kb_K_ceremony 8 RX6 (some .int) 18 1 6 false false 145 kd_K_ceremony_145 :=
  sd_iload (pc := 145) (kt_tab_get kx_K_ceremony 68 rfl) <|
  sd_if_eq (pc := 147) (tgt := 156) (kt_tab_get kx_K_ceremony 69 rfl) rfl (sd_drop (k := 7) (kz_K_ceremony_156 hf)) (sd_drop (k := 5) (sd_drop (k := 0) (kz_K_ceremony_150 hf)))
noncomputable def kd_K_ceremony_142 : kt_D := ki_push (.int 99) <| ki_iret
theorem kz_K_ceremony_142 (hf : l.flags = pinnedFlags ++ [noTraceFlag]) : kt_Snd l kt_shC kb_K_ceremony 8 RX6 (some .int) 18 1 6 false false 142 kd_K_ceremony_142 :=
  sd_bipush (pc := 142) (kt_tab_get kx_K_ceremony 66 rfl) kc_b_99 <|
  sd_iret (pc := 144) rfl (by decide) (kt_tab_get kx_K_ceremony 67 rfl)
noncomputable def kd_K_ceremony_117 : kt_D := ki_aload 0 <| ki_get kt_shC 6 0 <| ki_callV kt_shC 5 0 kf_T_serve <| ki_istore 7 <| ki_aload 0 <| ki_get kt_shC 6 0 <| ki_get kt_shC 5 3 <| ki_callV kt_shC 0 0 kf_B_clear <| ki_iload 7 <| ki_push (.int (-1)) <| ki_icmp_ne kd_K_ceremony_145 (ki_drop 7 (ki_drop 5 (ki_drop 0 kd_K_ceremony_142)))
theorem kz_K_ceremony_117 (hf : l.flags = pinnedFlags ++ [noTraceFlag]) : kt_Snd l kt_shC kb_K_ceremony 8 RX6 (some .int) 18 1 6 false false 117 kd_K_ceremony_117 :=
  sd_aload_n (pc := 117) (kt_tab_get kx_K_ceremony 55 rfl) rfl <|
  sd_get (pc := 118) (k := 0) (ci := 6) kt_hc6 kt_hin6 (by decide) (kt_tab_get kx_K_ceremony 56 rfl) (kg_K_ceremony_in _ (List.mem_of_getElem? (i := 10) rfl)) <|
  sd_callV (pc := 121) km_T_serve (by decide) kv_T_serve (ci := 5) kt_hc5 (by decide) (kt_tab_get kx_K_ceremony 57 rfl) (kg_K_ceremony_in _ (List.mem_of_getElem? (i := 12) rfl)) <|
  sd_istore (pc := 124) (kt_tab_get kx_K_ceremony 58 rfl) (by decide) <|
  sd_aload_n (pc := 126) (kt_tab_get kx_K_ceremony 59 rfl) rfl <|
  sd_get (pc := 127) (k := 0) (ci := 6) kt_hc6 kt_hin6 (by decide) (kt_tab_get kx_K_ceremony 60 rfl) (kg_K_ceremony_in _ (List.mem_of_getElem? (i := 10) rfl)) <|
  sd_getN (pc := 130) (k := 3) (ci := 5) kt_hc5 kt_hin5 (by decide) (kt_tab_get kx_K_ceremony 61 rfl) (List.mem_of_getElem? (i := 9) rfl) <|
  sd_callV (pc := 133) km_B_clear (by decide) kv_B_clear (ci := 0) kt_hc0 (by decide) (kt_tab_get kx_K_ceremony 62 rfl) (kg_K_ceremony_in _ (List.mem_of_getElem? (i := 13) rfl)) <|
  sd_iload (pc := 136) (kt_tab_get kx_K_ceremony 63 rfl) <|
  sd_iconst (pc := 138) (kt_tab_get kx_K_ceremony 64 rfl) kc_i_m1 <|
  sd_icmp_ne (pc := 139) (tgt := 145) (kt_tab_get kx_K_ceremony 65 rfl) rfl (kz_K_ceremony_145 hf) (sd_drop (k := 7) (sd_drop (k := 5) (sd_drop (k := 0) (kz_K_ceremony_142 hf))))
noncomputable def kd_K_ceremony_99 : kt_D := ki_aload 0 <| ki_get kt_shC 6 0 <| ki_get kt_shC 5 2 <| ki_get kt_shC 2 0 <| ki_iload 6 <| ki_iload 2 <| ki_iload 4 <| ki_callS 4 kf_K_writeAssert <| (ki_drop 6 (ki_drop 4 (ki_drop 2 kd_K_ceremony_117)))
theorem kz_K_ceremony_99 (hf : l.flags = pinnedFlags ++ [noTraceFlag]) : kt_Snd l kt_shC kb_K_ceremony 8 RX6 (some .int) 18 1 6 true false 99 kd_K_ceremony_99 :=
  sd_aload_n (pc := 99) (kt_tab_get kx_K_ceremony 47 rfl) rfl <|
  sd_get (pc := 100) (k := 0) (ci := 6) kt_hc6 kt_hin6 (by decide) (kt_tab_get kx_K_ceremony 48 rfl) (kg_K_ceremony_in _ (List.mem_of_getElem? (i := 10) rfl)) <|
  sd_getN (pc := 103) (k := 2) (ci := 5) kt_hc5 kt_hin5 (by decide) (kt_tab_get kx_K_ceremony 49 rfl) (List.mem_of_getElem? (i := 7) rfl) <|
  sd_getN (pc := 106) (k := 0) (ci := 2) kt_hc2 kt_hin2 (by decide) (kt_tab_get kx_K_ceremony 50 rfl) (List.mem_of_getElem? (i := 8) rfl) <|
  sd_iload (pc := 109) (kt_tab_get kx_K_ceremony 51 rfl) <|
  sd_iload_n (pc := 111) (kt_tab_get kx_K_ceremony 52 rfl) rfl <|
  sd_iload (pc := 112) (kt_tab_get kx_K_ceremony 53 rfl) <|
  sd_hist <|
  sd_callS (pc := 114) km_K_writeAssert (by decide) kv_K_writeAssert (by decide) (kt_tab_get kx_K_ceremony 54 rfl) (kg_K_ceremony_in _ (List.mem_of_getElem? (i := 14) rfl)) <|
  (sd_drop (k := 6) (sd_drop (k := 4) (sd_drop (k := 2) (kz_K_ceremony_117 hf))))
noncomputable def kd_K_ceremony_73 : kt_D := ki_aload 0 <| ki_get kt_shC 6 0 <| ki_get kt_shC 5 2 <| ki_get kt_shC 2 0 <| ki_iload 6 <| ki_iload 2 <| ki_aload 5 <| ki_get kt_shC 1 6 <| ki_iload 4 <| ki_callS 5 kf_K_writeMake <| (ki_drop 6 (ki_drop 4 (ki_drop 2 kd_K_ceremony_117)))
theorem kz_K_ceremony_73 (hf : l.flags = pinnedFlags ++ [noTraceFlag]) : kt_Snd l kt_shC kb_K_ceremony 8 RX6 (some .int) 18 1 6 true false 73 kd_K_ceremony_73 :=
  sd_aload_n (pc := 73) (kt_tab_get kx_K_ceremony 36 rfl) rfl <|
  sd_get (pc := 74) (k := 0) (ci := 6) kt_hc6 kt_hin6 (by decide) (kt_tab_get kx_K_ceremony 37 rfl) (kg_K_ceremony_in _ (List.mem_of_getElem? (i := 10) rfl)) <|
  sd_getN (pc := 77) (k := 2) (ci := 5) kt_hc5 kt_hin5 (by decide) (kt_tab_get kx_K_ceremony 38 rfl) (List.mem_of_getElem? (i := 7) rfl) <|
  sd_getN (pc := 80) (k := 0) (ci := 2) kt_hc2 kt_hin2 (by decide) (kt_tab_get kx_K_ceremony 39 rfl) (List.mem_of_getElem? (i := 8) rfl) <|
  sd_iload (pc := 83) (kt_tab_get kx_K_ceremony 40 rfl) <|
  sd_iload_n (pc := 85) (kt_tab_get kx_K_ceremony 41 rfl) rfl <|
  sd_aload (pc := 86) (kt_tab_get kx_K_ceremony 42 rfl) <|
  sd_getN (pc := 88) (k := 6) (ci := 1) kt_hc1 kt_hin1 (by decide) (kt_tab_get kx_K_ceremony 43 rfl) (List.mem_of_getElem? (i := 13) rfl) <|
  sd_iload (pc := 91) (kt_tab_get kx_K_ceremony 44 rfl) <|
  sd_hist <|
  sd_callS (pc := 93) km_K_writeMake (by decide) kv_K_writeMake (by decide) (kt_tab_get kx_K_ceremony 45 rfl) (kg_K_ceremony_in _ (List.mem_of_getElem? (i := 15) rfl)) <|
  sd_goto (pc := 96) (tgt := 117) (kt_tab_get kx_K_ceremony 46 rfl) rfl (sd_drop (k := 6) (sd_drop (k := 4) (sd_drop (k := 2) (kz_K_ceremony_117 hf))))
noncomputable def kd_K_ceremony_58 : kt_D := ki_push (.int 4) <| ki_aload 5 <| ki_get kt_shC 1 5 <| ki_imul <| ki_iload 2 <| ki_iadd <| ki_istore 6 <| ki_iload 3 <| ki_if_eq (ki_drop 3 kd_K_ceremony_99) (ki_drop 3 kd_K_ceremony_73)
theorem kz_K_ceremony_58 (hf : l.flags = pinnedFlags ++ [noTraceFlag]) : kt_Snd l kt_shC kb_K_ceremony 8 RX6 (some .int) 18 1 6 true false 58 kd_K_ceremony_58 :=
  sd_iconst (pc := 58) (kt_tab_get kx_K_ceremony 27 rfl) kc_i_4 <|
  sd_aload (pc := 59) (kt_tab_get kx_K_ceremony 28 rfl) <|
  sd_getN (pc := 61) (k := 5) (ci := 1) kt_hc1 kt_hin1 (by decide) (kt_tab_get kx_K_ceremony 29 rfl) (List.mem_of_getElem? (i := 12) rfl) <|
  sd_imul (pc := 64) (kt_tab_get kx_K_ceremony 30 rfl) <|
  sd_iload_n (pc := 65) (kt_tab_get kx_K_ceremony 31 rfl) rfl <|
  sd_iadd (pc := 66) (kt_tab_get kx_K_ceremony 32 rfl) <|
  sd_istore (pc := 67) (kt_tab_get kx_K_ceremony 33 rfl) (by decide) <|
  sd_iload_n (pc := 69) (kt_tab_get kx_K_ceremony 34 rfl) rfl <|
  sd_if_eq (pc := 70) (tgt := 99) (kt_tab_get kx_K_ceremony 35 rfl) rfl (sd_drop (k := 3) (kz_K_ceremony_99 hf)) (sd_drop (k := 3) (kz_K_ceremony_73 hf))
noncomputable def kd_K_ceremony_40 : kt_D := ki_aload 5 <| ki_get kt_shC 1 5 <| ki_if_ne kd_K_ceremony_58 (ki_drop 5 (ki_drop 4 (ki_drop 3 (ki_drop 2 (ki_drop 0 kd_K_ceremony_48)))))
theorem kz_K_ceremony_40 (hf : l.flags = pinnedFlags ++ [noTraceFlag]) : kt_Snd l kt_shC kb_K_ceremony 8 RX6 (some .int) 18 1 6 true false 40 kd_K_ceremony_40 :=
  sd_aload (pc := 40) (kt_tab_get kx_K_ceremony 19 rfl) <|
  sd_getN (pc := 42) (k := 5) (ci := 1) kt_hc1 kt_hin1 (by decide) (kt_tab_get kx_K_ceremony 20 rfl) (List.mem_of_getElem? (i := 12) rfl) <|
  sd_if_ne (pc := 45) (tgt := 58) (kt_tab_get kx_K_ceremony 21 rfl) rfl (kz_K_ceremony_58 hf) (sd_drop (k := 5) (sd_drop (k := 4) (sd_drop (k := 3) (sd_drop (k := 2) (sd_drop (k := 0) (kz_K_ceremony_48 hf))))))
noncomputable def kd_K_ceremony_30 : kt_D := ki_aload 0 <| ki_get kt_shC 6 0 <| ki_get kt_shC 5 5 <| ki_if_eq (ki_drop 5 (ki_drop 4 (ki_drop 3 (ki_drop 2 (ki_drop 0 kd_K_ceremony_48))))) kd_K_ceremony_40
theorem kz_K_ceremony_30 (hf : l.flags = pinnedFlags ++ [noTraceFlag]) : kt_Snd l kt_shC kb_K_ceremony 8 RX6 (some .int) 18 1 6 true false 30 kd_K_ceremony_30 :=
  sd_aload_n (pc := 30) (kt_tab_get kx_K_ceremony 15 rfl) rfl <|
  sd_get (pc := 31) (k := 0) (ci := 6) kt_hc6 kt_hin6 (by decide) (kt_tab_get kx_K_ceremony 16 rfl) (kg_K_ceremony_in _ (List.mem_of_getElem? (i := 10) rfl)) <|
  sd_getN (pc := 34) (k := 5) (ci := 5) kt_hc5 kt_hin5 (by decide) (kt_tab_get kx_K_ceremony 17 rfl) (List.mem_of_getElem? (i := 6) rfl) <|
  sd_if_eq (pc := 37) (tgt := 48) (kt_tab_get kx_K_ceremony 18 rfl) rfl (sd_drop (k := 5) (sd_drop (k := 4) (sd_drop (k := 3) (sd_drop (k := 2) (sd_drop (k := 0) (kz_K_ceremony_48 hf)))))) (kz_K_ceremony_40 hf)
noncomputable def kd_K_ceremony_12 : kt_D := ki_aload 0 <| ki_iload 2 <| ki_callV kt_shC 6 1 kf_K_partyAt <| ki_ifnonnull kd_K_ceremony_30 (ki_drop 5 (ki_drop 4 (ki_drop 3 (ki_drop 2 (ki_drop 0 kd_K_ceremony_20)))))
theorem kz_K_ceremony_12 (hf : l.flags = pinnedFlags ++ [noTraceFlag]) : kt_Snd l kt_shC kb_K_ceremony 8 RX6 (some .int) 18 1 6 true false 12 kd_K_ceremony_12 :=
  sd_aload_n (pc := 12) (kt_tab_get kx_K_ceremony 6 rfl) rfl <|
  sd_iload_n (pc := 13) (kt_tab_get kx_K_ceremony 7 rfl) rfl <|
  sd_callV (pc := 14) km_K_partyAt (by decide) kv_K_partyAt (ci := 6) kt_hc6 (by decide) (kt_tab_get kx_K_ceremony 8 rfl) (kg_K_ceremony_in _ (List.mem_of_getElem? (i := 16) rfl)) <|
  sd_ifnonnull (pc := 17) (tgt := 30) (kt_tab_get kx_K_ceremony 9 rfl) rfl (kz_K_ceremony_30 hf) (sd_drop (k := 5) (sd_drop (k := 4) (sd_drop (k := 3) (sd_drop (k := 2) (sd_drop (k := 0) (kz_K_ceremony_20 hf))))))
noncomputable def kd_K_ceremony_0 : kt_D := ki_aload 0 <| ki_iload 1 <| ki_callV kt_shC 6 1 kf_K_partyAt <| ki_astore 5 <| ki_aload 5 <| ki_ifnull (ki_drop 5 (ki_drop 4 (ki_drop 3 (ki_drop 2 (ki_drop 1 (ki_drop 0 kd_K_ceremony_20)))))) (ki_drop 1 kd_K_ceremony_12)
theorem kz_K_ceremony_0 (hf : l.flags = pinnedFlags ++ [noTraceFlag]) : kt_Snd l kt_shC kb_K_ceremony 8 RX6 (some .int) 18 1 6 true false 0 kd_K_ceremony_0 :=
  sd_aload_n (pc := 0) (kt_tab_get kx_K_ceremony 0 rfl) rfl <|
  sd_iload_n (pc := 1) (kt_tab_get kx_K_ceremony 1 rfl) rfl <|
  sd_callV (pc := 2) km_K_partyAt (by decide) kv_K_partyAt (ci := 6) kt_hc6 (by decide) (kt_tab_get kx_K_ceremony 2 rfl) (kg_K_ceremony_in _ (List.mem_of_getElem? (i := 16) rfl)) <|
  sd_astore (pc := 5) (kt_tab_get kx_K_ceremony 3 rfl) (by decide) <|
  sd_aload (pc := 7) (kt_tab_get kx_K_ceremony 4 rfl) <|
  sd_ifnull (pc := 9) (tgt := 20) (kt_tab_get kx_K_ceremony 5 rfl) rfl (sd_drop (k := 5) (sd_drop (k := 4) (sd_drop (k := 3) (sd_drop (k := 2) (sd_drop (k := 1) (sd_drop (k := 0) (kz_K_ceremony_20 hf))))))) (sd_drop (k := 1) (kz_K_ceremony_12 hf))
noncomputable def kf_K_ceremony : kt_F := kt_run 8 kd_K_ceremony_0
theorem km_K_ceremony (hf : l.flags = pinnedFlags ++ [noTraceFlag]) : kt_MT l kt_shC ky_K_ceremony kb_K_ceremony 8 (some .int) 18 1 6 kf_K_ceremony := kt_methodT (by decide) rfl (kz_K_ceremony_0 hf)
noncomputable def kd_K_offer_21 : kt_D := ki_throw 3
theorem kz_K_offer_21 (hf : l.flags = pinnedFlags ++ [noTraceFlag]) : kt_Snd l kt_shC kb_K_offer 6 RX6 (some .int) 6 1 6 true false 21 kd_K_offer_21 :=
  sd_throw (pc := 21) (n := 3) hf rfl (by decide) rfl (by decide) (by decide) (by decide) (kt_tab_get kx_K_offer 11 rfl) (kt_tab_get kx_K_offer 12 rfl) (kt_tab_get kx_K_offer 13 rfl) (kt_tab_get kx_K_offer 14 rfl) (kt_tab_get kx_K_offer 15 rfl) (kg_K_offer_in _ (List.mem_of_getElem? (i := 4) rfl)) (kg_K_offer_in _ (List.mem_of_getElem? (i := 5) rfl)) (kg_K_offer_in _ (List.mem_of_getElem? (i := 6) rfl)) (k := 6) rfl kt_tw_3
noncomputable def kd_K_offer_73 : kt_D := ki_aload 0 <| ki_aload 5 <| ki_iload 2 <| ki_iload 3 <| ki_iload 4 <| ki_callV kt_shC 6 4 kf_K_judge <| ki_iret
theorem kz_K_offer_73 (hf : l.flags = pinnedFlags ++ [noTraceFlag]) : kt_Snd l kt_shC kb_K_offer 6 RX6 (some .int) 6 1 6 true false 73 kd_K_offer_73 :=
  sd_aload_n (pc := 73) (kt_tab_get kx_K_offer 35 rfl) rfl <|
  sd_aload (pc := 74) (kt_tab_get kx_K_offer 36 rfl) <|
  sd_iload_n (pc := 76) (kt_tab_get kx_K_offer 37 rfl) rfl <|
  sd_iload_n (pc := 77) (kt_tab_get kx_K_offer 38 rfl) rfl <|
  sd_iload (pc := 78) (kt_tab_get kx_K_offer 39 rfl) <|
  sd_hist <|
  sd_callV (pc := 80) km_K_judge (by decide) kv_K_judge (ci := 6) kt_hc6 (by decide) (kt_tab_get kx_K_offer 40 rfl) (kg_K_offer_in _ (List.mem_of_getElem? (i := 7) rfl)) <|
  sd_iret (pc := 83) rfl (by decide) (kt_tab_get kx_K_offer 41 rfl)
noncomputable def kd_K_offer_63 : kt_D := ki_throw 0
theorem kz_K_offer_63 (hf : l.flags = pinnedFlags ++ [noTraceFlag]) : kt_Snd l kt_shC kb_K_offer 6 RX6 (some .int) 6 1 6 true false 63 kd_K_offer_63 :=
  sd_throw (pc := 63) (n := 0) hf rfl (by decide) rfl (by decide) (by decide) (by decide) (kt_tab_get kx_K_offer 30 rfl) (kt_tab_get kx_K_offer 31 rfl) (kt_tab_get kx_K_offer 32 rfl) (kt_tab_get kx_K_offer 33 rfl) (kt_tab_get kx_K_offer 34 rfl) (kg_K_offer_in _ (List.mem_of_getElem? (i := 8) rfl)) (kg_K_offer_in _ (List.mem_of_getElem? (i := 9) rfl)) (kg_K_offer_in _ (List.mem_of_getElem? (i := 10) rfl)) (k := 8) rfl kt_tw_0
noncomputable def kd_K_offer_55 : kt_D := ki_aload 5 <| ki_get kt_shC 1 5 <| ki_if_ne kd_K_offer_73 (ki_drop 5 (ki_drop 4 (ki_drop 3 (ki_drop 2 (ki_drop 0 kd_K_offer_63)))))
theorem kz_K_offer_55 (hf : l.flags = pinnedFlags ++ [noTraceFlag]) : kt_Snd l kt_shC kb_K_offer 6 RX6 (some .int) 6 1 6 true false 55 kd_K_offer_55 :=
  sd_aload (pc := 55) (kt_tab_get kx_K_offer 27 rfl) <|
  sd_getN (pc := 57) (k := 5) (ci := 1) kt_hc1 kt_hin1 (by decide) (kt_tab_get kx_K_offer 28 rfl) (List.mem_of_getElem? (i := 12) rfl) <|
  sd_if_ne (pc := 60) (tgt := 73) (kt_tab_get kx_K_offer 29 rfl) rfl (kz_K_offer_73 hf) (sd_drop (k := 5) (sd_drop (k := 4) (sd_drop (k := 3) (sd_drop (k := 2) (sd_drop (k := 0) (kz_K_offer_63 hf))))))
noncomputable def kd_K_offer_45 : kt_D := ki_throw 2
theorem kz_K_offer_45 (hf : l.flags = pinnedFlags ++ [noTraceFlag]) : kt_Snd l kt_shC kb_K_offer 6 RX6 (some .int) 6 1 6 true false 45 kd_K_offer_45 :=
  sd_throwX (ix := 13) (rx := prog_19_method_4_code) (by decide +kernel) (by decide +kernel) (by decide +kernel) (by decide +kernel) (pc := 45) (n := 2) hf rfl (by decide) rfl (by decide) (by decide) (by decide) (kt_tab_get kx_K_offer 22 rfl) (kt_tab_get kx_K_offer 23 rfl) (kt_tab_get kx_K_offer 24 rfl) (kt_tab_get kx_K_offer 25 rfl) (kt_tab_get kx_K_offer 26 rfl) (kg_K_offer_in _ (List.mem_of_getElem? (i := 11) rfl)) (kg_K_offer_in _ (List.mem_of_getElem? (i := 12) rfl)) (kg_K_offer_in _ (List.mem_of_getElem? (i := 13) rfl)) (k := 7) rfl kt_tw_2
noncomputable def kd_K_offer_31 : kt_D := ki_aload 0 <| ki_get kt_shC 6 0 <| ki_get kt_shC 5 1 <| ki_iload 2 <| ki_callV kt_shC 3 1 kf_G_has <| ki_if_ne kd_K_offer_55 (ki_drop 5 (ki_drop 4 (ki_drop 3 (ki_drop 2 (ki_drop 0 kd_K_offer_45)))))
theorem kz_K_offer_31 (hf : l.flags = pinnedFlags ++ [noTraceFlag]) : kt_Snd l kt_shC kb_K_offer 6 RX6 (some .int) 6 1 6 true false 31 kd_K_offer_31 :=
  sd_aload_n (pc := 31) (kt_tab_get kx_K_offer 16 rfl) rfl <|
  sd_get (pc := 32) (k := 0) (ci := 6) kt_hc6 kt_hin6 (by decide) (kt_tab_get kx_K_offer 17 rfl) (kg_K_offer_in _ (List.mem_of_getElem? (i := 14) rfl)) <|
  sd_getN (pc := 35) (k := 1) (ci := 5) kt_hc5 kt_hin5 (by decide) (kt_tab_get kx_K_offer 18 rfl) (List.mem_of_getElem? (i := 14) rfl) <|
  sd_iload_n (pc := 38) (kt_tab_get kx_K_offer 19 rfl) rfl <|
  sd_callV (pc := 39) km_G_has (by decide) kv_G_has (ci := 3) kt_hc3 (by decide) (kt_tab_get kx_K_offer 20 rfl) (kg_K_offer_in _ (List.mem_of_getElem? (i := 15) rfl)) <|
  sd_if_ne (pc := 42) (tgt := 55) (kt_tab_get kx_K_offer 21 rfl) rfl (kz_K_offer_55 hf) (sd_drop (k := 5) (sd_drop (k := 4) (sd_drop (k := 3) (sd_drop (k := 2) (sd_drop (k := 0) (kz_K_offer_45 hf))))))
noncomputable def kd_K_offer_16 : kt_D := ki_iload 3 <| ki_push (.int 5) <| ki_icmp_le kd_K_offer_31 (ki_drop 5 (ki_drop 4 (ki_drop 3 (ki_drop 2 (ki_drop 0 kd_K_offer_21)))))
theorem kz_K_offer_16 (hf : l.flags = pinnedFlags ++ [noTraceFlag]) : kt_Snd l kt_shC kb_K_offer 6 RX6 (some .int) 6 1 6 true false 16 kd_K_offer_16 :=
  sd_iload_n (pc := 16) (kt_tab_get kx_K_offer 8 rfl) rfl <|
  sd_iconst (pc := 17) (kt_tab_get kx_K_offer 9 rfl) kc_i_5 <|
  sd_icmp_le (pc := 18) (tgt := 31) (kt_tab_get kx_K_offer 10 rfl) rfl (kz_K_offer_31 hf) (sd_drop (k := 5) (sd_drop (k := 4) (sd_drop (k := 3) (sd_drop (k := 2) (sd_drop (k := 0) (kz_K_offer_21 hf))))))
noncomputable def kd_K_offer_12 : kt_D := ki_iload 3 <| ki_if_lt (ki_drop 5 (ki_drop 4 (ki_drop 3 (ki_drop 2 (ki_drop 0 kd_K_offer_21))))) kd_K_offer_16
theorem kz_K_offer_12 (hf : l.flags = pinnedFlags ++ [noTraceFlag]) : kt_Snd l kt_shC kb_K_offer 6 RX6 (some .int) 6 1 6 true false 12 kd_K_offer_12 :=
  sd_iload_n (pc := 12) (kt_tab_get kx_K_offer 6 rfl) rfl <|
  sd_if_lt (pc := 13) (tgt := 21) (kt_tab_get kx_K_offer 7 rfl) rfl (sd_drop (k := 5) (sd_drop (k := 4) (sd_drop (k := 3) (sd_drop (k := 2) (sd_drop (k := 0) (kz_K_offer_21 hf)))))) (kz_K_offer_16 hf)
noncomputable def kd_K_offer_0 : kt_D := ki_aload 0 <| ki_iload 1 <| ki_callV kt_shC 6 1 kf_K_partyAt <| ki_astore 5 <| ki_aload 5 <| ki_ifnull (ki_drop 5 (ki_drop 4 (ki_drop 3 (ki_drop 2 (ki_drop 1 (ki_drop 0 kd_K_offer_21)))))) (ki_drop 1 kd_K_offer_12)
theorem kz_K_offer_0 (hf : l.flags = pinnedFlags ++ [noTraceFlag]) : kt_Snd l kt_shC kb_K_offer 6 RX6 (some .int) 6 1 6 true false 0 kd_K_offer_0 :=
  sd_aload_n (pc := 0) (kt_tab_get kx_K_offer 0 rfl) rfl <|
  sd_iload_n (pc := 1) (kt_tab_get kx_K_offer 1 rfl) rfl <|
  sd_callV (pc := 2) km_K_partyAt (by decide) kv_K_partyAt (ci := 6) kt_hc6 (by decide) (kt_tab_get kx_K_offer 2 rfl) (kg_K_offer_in _ (List.mem_of_getElem? (i := 16) rfl)) <|
  sd_astore (pc := 5) (kt_tab_get kx_K_offer 3 rfl) (by decide) <|
  sd_aload (pc := 7) (kt_tab_get kx_K_offer 4 rfl) <|
  sd_ifnull (pc := 9) (tgt := 21) (kt_tab_get kx_K_offer 5 rfl) rfl (sd_drop (k := 5) (sd_drop (k := 4) (sd_drop (k := 3) (sd_drop (k := 2) (sd_drop (k := 1) (sd_drop (k := 0) (kz_K_offer_21 hf))))))) (sd_drop (k := 1) (kz_K_offer_12 hf))
noncomputable def kf_K_offer : kt_F := kt_run 6 kd_K_offer_0
theorem km_K_offer (hf : l.flags = pinnedFlags ++ [noTraceFlag]) : kt_MT l kt_shC ky_K_offer kb_K_offer 6 (some .int) 6 1 6 kf_K_offer := kt_methodT (by decide) rfl (kz_K_offer_0 hf)
noncomputable def kd_K_signature_25 : kt_D := ki_throw 2
theorem kz_K_signature_25 (hf : l.flags = pinnedFlags ++ [noTraceFlag]) : kt_Snd l kt_shC kb_K_signature 3 RX6 (some .int) 6 1 6 true false 25 kd_K_signature_25 :=
  sd_throwX (ix := 13) (rx := prog_19_method_4_code) (by decide +kernel) (by decide +kernel) (by decide +kernel) (by decide +kernel) (pc := 25) (n := 2) hf rfl (by decide) rfl (by decide) (by decide) (by decide) (kt_tab_get kx_K_signature 12 rfl) (kt_tab_get kx_K_signature 13 rfl) (kt_tab_get kx_K_signature 14 rfl) (kt_tab_get kx_K_signature 15 rfl) (kt_tab_get kx_K_signature 16 rfl) (kg_K_signature_in _ (List.mem_of_getElem? (i := 4) rfl)) (kg_K_signature_in _ (List.mem_of_getElem? (i := 5) rfl)) (kg_K_signature_in _ (List.mem_of_getElem? (i := 6) rfl)) (k := 9) rfl kt_tw_2
noncomputable def kd_K_signature_35 : kt_D := ki_aload 0 <| ki_get kt_shC 6 0 <| ki_get kt_shC 5 1 <| ki_iload 1 <| ki_iload 2 <| ki_callV kt_shC 3 2 kf_G_field <| ki_iret
theorem kz_K_signature_35 (hf : l.flags = pinnedFlags ++ [noTraceFlag]) : kt_Snd l kt_shC kb_K_signature 3 RX6 (some .int) 6 1 6 true false 35 kd_K_signature_35 :=
  sd_aload_n (pc := 35) (kt_tab_get kx_K_signature 17 rfl) rfl <|
  sd_get (pc := 36) (k := 0) (ci := 6) kt_hc6 kt_hin6 (by decide) (kt_tab_get kx_K_signature 18 rfl) (kg_K_signature_in _ (List.mem_of_getElem? (i := 7) rfl)) <|
  sd_getN (pc := 39) (k := 1) (ci := 5) kt_hc5 kt_hin5 (by decide) (kt_tab_get kx_K_signature 19 rfl) (List.mem_of_getElem? (i := 14) rfl) <|
  sd_iload_n (pc := 42) (kt_tab_get kx_K_signature 20 rfl) rfl <|
  sd_iload_n (pc := 43) (kt_tab_get kx_K_signature 21 rfl) rfl <|
  sd_callV (pc := 44) km_G_field (by decide) kv_G_field (ci := 3) kt_hc3 (by decide) (kt_tab_get kx_K_signature 22 rfl) (kg_K_signature_in _ (List.mem_of_getElem? (i := 8) rfl)) <|
  sd_iret (pc := 47) rfl (by decide) (kt_tab_get kx_K_signature 23 rfl)
noncomputable def kd_K_signature_19 : kt_D := ki_iload 2 <| ki_push (.int 6) <| ki_icmp_le kd_K_signature_35 (ki_drop 2 (ki_drop 1 (ki_drop 0 kd_K_signature_25)))
theorem kz_K_signature_19 (hf : l.flags = pinnedFlags ++ [noTraceFlag]) : kt_Snd l kt_shC kb_K_signature 3 RX6 (some .int) 6 1 6 true false 19 kd_K_signature_19 :=
  sd_iload_n (pc := 19) (kt_tab_get kx_K_signature 9 rfl) rfl <|
  sd_bipush (pc := 20) (kt_tab_get kx_K_signature 10 rfl) kc_b_6 <|
  sd_icmp_le (pc := 22) (tgt := 35) (kt_tab_get kx_K_signature 11 rfl) rfl (kz_K_signature_35 hf) (sd_drop (k := 2) (sd_drop (k := 1) (sd_drop (k := 0) (kz_K_signature_25 hf))))
noncomputable def kd_K_signature_14 : kt_D := ki_iload 2 <| ki_push (.int 1) <| ki_icmp_lt (ki_drop 2 (ki_drop 1 (ki_drop 0 kd_K_signature_25))) kd_K_signature_19
theorem kz_K_signature_14 (hf : l.flags = pinnedFlags ++ [noTraceFlag]) : kt_Snd l kt_shC kb_K_signature 3 RX6 (some .int) 6 1 6 true false 14 kd_K_signature_14 :=
  sd_iload_n (pc := 14) (kt_tab_get kx_K_signature 6 rfl) rfl <|
  sd_iconst (pc := 15) (kt_tab_get kx_K_signature 7 rfl) kc_i_1 <|
  sd_icmp_lt (pc := 16) (tgt := 25) (kt_tab_get kx_K_signature 8 rfl) rfl (sd_drop (k := 2) (sd_drop (k := 1) (sd_drop (k := 0) (kz_K_signature_25 hf)))) (kz_K_signature_19 hf)
noncomputable def kd_K_signature_0 : kt_D := ki_aload 0 <| ki_get kt_shC 6 0 <| ki_get kt_shC 5 1 <| ki_iload 1 <| ki_callV kt_shC 3 1 kf_G_has <| ki_if_eq (ki_drop 2 (ki_drop 1 (ki_drop 0 kd_K_signature_25))) kd_K_signature_14
theorem kz_K_signature_0 (hf : l.flags = pinnedFlags ++ [noTraceFlag]) : kt_Snd l kt_shC kb_K_signature 3 RX6 (some .int) 6 1 6 true false 0 kd_K_signature_0 :=
  sd_aload_n (pc := 0) (kt_tab_get kx_K_signature 0 rfl) rfl <|
  sd_get (pc := 1) (k := 0) (ci := 6) kt_hc6 kt_hin6 (by decide) (kt_tab_get kx_K_signature 1 rfl) (kg_K_signature_in _ (List.mem_of_getElem? (i := 7) rfl)) <|
  sd_getN (pc := 4) (k := 1) (ci := 5) kt_hc5 kt_hin5 (by decide) (kt_tab_get kx_K_signature 2 rfl) (List.mem_of_getElem? (i := 14) rfl) <|
  sd_iload_n (pc := 7) (kt_tab_get kx_K_signature 3 rfl) rfl <|
  sd_callV (pc := 8) km_G_has (by decide) kv_G_has (ci := 3) kt_hc3 (by decide) (kt_tab_get kx_K_signature 4 rfl) (kg_K_signature_in _ (List.mem_of_getElem? (i := 9) rfl)) <|
  sd_if_eq (pc := 11) (tgt := 25) (kt_tab_get kx_K_signature 5 rfl) rfl (sd_drop (k := 2) (sd_drop (k := 1) (sd_drop (k := 0) (kz_K_signature_25 hf)))) (kz_K_signature_14 hf)
noncomputable def kf_K_signature : kt_F := kt_run 3 kd_K_signature_0
theorem km_K_signature (hf : l.flags = pinnedFlags ++ [noTraceFlag]) : kt_MT l kt_shC ky_K_signature kb_K_signature 3 (some .int) 6 1 6 kf_K_signature := kt_methodT (by decide) rfl (kz_K_signature_0 hf)
noncomputable def kd_K_party_19 : kt_D := ki_iret
theorem kz_K_party_19 : kt_Snd l kt_shC kb_K_party 4 RX6 (some .int) 1 0 0 true true 19 kd_K_party_19 :=
  sd_iret (pc := 19) rfl (by decide) (kt_tab_get kx_K_party 11 rfl)
noncomputable def kd_K_party_14 : kt_D := ki_aload 3 <| ki_iload 2 <| ki_callV kt_shC 1 1 kf_P_tell <| (ki_drop 3 (ki_drop 2 kd_K_party_19))
theorem kz_K_party_14 : kt_Snd l kt_shC kb_K_party 4 RX6 (some .int) 1 0 0 true true 14 kd_K_party_14 :=
  sd_aload_n (pc := 14) (kt_tab_get kx_K_party 8 rfl) rfl <|
  sd_iload_n (pc := 15) (kt_tab_get kx_K_party 9 rfl) rfl <|
  sd_callV (pc := 16) km_P_tell (by decide) kv_P_tell (ci := 1) kt_hc1 (by decide) (kt_tab_get kx_K_party 10 rfl) (kg_K_party_in _ (List.mem_of_getElem? (i := 4) rfl)) <|
  (sd_drop (k := 3) (sd_drop (k := 2) kz_K_party_19))
noncomputable def kd_K_party_10 : kt_D := ki_push (.int (-1)) <| kd_K_party_19
theorem kz_K_party_10 : kt_Snd l kt_shC kb_K_party 4 RX6 (some .int) 1 0 0 true true 10 kd_K_party_10 :=
  sd_iconst (pc := 10) (kt_tab_get kx_K_party 6 rfl) kc_i_m1 <|
  sd_goto (pc := 11) (tgt := 19) (kt_tab_get kx_K_party 7 rfl) rfl kz_K_party_19
noncomputable def kd_K_party_0 : kt_D := ki_aload 0 <| ki_iload 1 <| ki_callV kt_shC 6 1 kf_K_partyAt <| ki_astore 3 <| ki_aload 3 <| ki_ifnonnull (ki_drop 1 (ki_drop 0 kd_K_party_14)) (ki_drop 3 (ki_drop 2 (ki_drop 1 (ki_drop 0 kd_K_party_10))))
theorem kz_K_party_0 : kt_Snd l kt_shC kb_K_party 4 RX6 (some .int) 1 0 0 true true 0 kd_K_party_0 :=
  sd_aload_n (pc := 0) (kt_tab_get kx_K_party 0 rfl) rfl <|
  sd_iload_n (pc := 1) (kt_tab_get kx_K_party 1 rfl) rfl <|
  sd_callV (pc := 2) km_K_partyAt (by decide) kv_K_partyAt (ci := 6) kt_hc6 (by decide) (kt_tab_get kx_K_party 2 rfl) (kg_K_party_in _ (List.mem_of_getElem? (i := 5) rfl)) <|
  sd_astore_n (pc := 5) (kt_tab_get kx_K_party 3 rfl) rfl (by decide) <|
  sd_aload_n (pc := 6) (kt_tab_get kx_K_party 4 rfl) rfl <|
  sd_ifnonnull (pc := 7) (tgt := 14) (kt_tab_get kx_K_party 5 rfl) rfl (sd_drop (k := 1) (sd_drop (k := 0) kz_K_party_14)) (sd_drop (k := 3) (sd_drop (k := 2) (sd_drop (k := 1) (sd_drop (k := 0) kz_K_party_10))))
noncomputable def kf_K_party : kt_F := kt_run 4 kd_K_party_0
theorem km_K_party : kt_M l kt_shC ky_K_party kb_K_party 4 (some .int) 1 true kf_K_party := kt_method (by decide) rfl kz_K_party_0
noncomputable def kd_K_cell_0 : kt_D := ki_aload 0 <| ki_get kt_shC 6 0 <| ki_get kt_shC 5 0 <| ki_iload 1 <| ki_iload 2 <| ki_callV kt_shC 4 2 kf_S_read <| ki_iret
theorem kz_K_cell_0 : kt_Snd l kt_shC kb_K_cell 3 RX6 (some .int) 1 0 0 true true 0 kd_K_cell_0 :=
  sd_aload_n (pc := 0) (kt_tab_get kx_K_cell 0 rfl) rfl <|
  sd_get (pc := 1) (k := 0) (ci := 6) kt_hc6 kt_hin6 (by decide) (kt_tab_get kx_K_cell 1 rfl) (kg_K_cell_in _ (List.mem_of_getElem? (i := 4) rfl)) <|
  sd_getN (pc := 4) (k := 0) (ci := 5) kt_hc5 kt_hin5 (by decide) (kt_tab_get kx_K_cell 2 rfl) (List.mem_of_getElem? (i := 10) rfl) <|
  sd_iload_n (pc := 7) (kt_tab_get kx_K_cell 3 rfl) rfl <|
  sd_iload_n (pc := 8) (kt_tab_get kx_K_cell 4 rfl) rfl <|
  sd_callV (pc := 9) km_S_read (by decide) kv_S_read (ci := 4) kt_hc4 (by decide) (kt_tab_get kx_K_cell 5 rfl) (kg_K_cell_in _ (List.mem_of_getElem? (i := 5) rfl)) <|
  sd_iret (pc := 12) rfl (by decide) (kt_tab_get kx_K_cell 6 rfl)
noncomputable def kf_K_cell : kt_F := kt_run 3 kd_K_cell_0
theorem km_K_cell : kt_M l kt_shC ky_K_cell kb_K_cell 3 (some .int) 1 true kf_K_cell := kt_method (by decide) rfl kz_K_cell_0
noncomputable def kd_K_look_67 : kt_D := ki_iret
theorem kz_K_look_67 : kt_Snd l kt_shC kb_K_look 2 RX6 (some .int) 1 0 0 true true 67 kd_K_look_67 :=
  sd_iret (pc := 67) rfl (by decide) (kt_tab_get kx_K_look 9 rfl)
noncomputable def kd_K_look_66 : kt_D := ki_push (.int 0) <| kd_K_look_67
theorem kz_K_look_66 : kt_Snd l kt_shC kb_K_look 2 RX6 (some .int) 1 0 0 true true 66 kd_K_look_66 :=
  sd_iconst (pc := 66) (kt_tab_get kx_K_look 8 rfl) kc_i_0 <|
  kz_K_look_67
noncomputable def kd_K_look_62 : kt_D := ki_push (.int 1) <| kd_K_look_67
theorem kz_K_look_62 : kt_Snd l kt_shC kb_K_look 2 RX6 (some .int) 1 0 0 true true 62 kd_K_look_62 :=
  sd_iconst (pc := 62) (kt_tab_get kx_K_look 6 rfl) kc_i_1 <|
  sd_goto (pc := 63) (tgt := 67) (kt_tab_get kx_K_look 7 rfl) rfl kz_K_look_67
noncomputable def kd_K_look_52 : kt_D := ki_aload 0 <| ki_get kt_shC 6 0 <| ki_get kt_shC 5 5 <| ki_if_eq (ki_drop 0 kd_K_look_66) (ki_drop 0 kd_K_look_62)
theorem kz_K_look_52 : kt_Snd l kt_shC kb_K_look 2 RX6 (some .int) 1 0 0 true true 52 kd_K_look_52 :=
  sd_aload_n (pc := 52) (kt_tab_get kx_K_look 2 rfl) rfl <|
  sd_get (pc := 53) (k := 0) (ci := 6) kt_hc6 kt_hin6 (by decide) (kt_tab_get kx_K_look 3 rfl) (kg_K_look_in _ (List.mem_of_getElem? (i := 4) rfl)) <|
  sd_getN (pc := 56) (k := 5) (ci := 5) kt_hc5 kt_hin5 (by decide) (kt_tab_get kx_K_look 4 rfl) (List.mem_of_getElem? (i := 6) rfl) <|
  sd_if_eq (pc := 59) (tgt := 66) (kt_tab_get kx_K_look 5 rfl) rfl (sd_drop (k := 0) kz_K_look_66) (sd_drop (k := 0) kz_K_look_62)
noncomputable def kd_K_look_83 : kt_D := ki_iret
theorem kz_K_look_83 : kt_Snd l kt_shC kb_K_look 2 RX6 (some .int) 1 0 0 true true 83 kd_K_look_83 :=
  sd_iret (pc := 83) rfl (by decide) (kt_tab_get kx_K_look 17 rfl)
noncomputable def kd_K_look_82 : kt_D := ki_push (.int 0) <| kd_K_look_83
theorem kz_K_look_82 : kt_Snd l kt_shC kb_K_look 2 RX6 (some .int) 1 0 0 true true 82 kd_K_look_82 :=
  sd_iconst (pc := 82) (kt_tab_get kx_K_look 16 rfl) kc_i_0 <|
  kz_K_look_83
noncomputable def kd_K_look_78 : kt_D := ki_push (.int 1) <| kd_K_look_83
theorem kz_K_look_78 : kt_Snd l kt_shC kb_K_look 2 RX6 (some .int) 1 0 0 true true 78 kd_K_look_78 :=
  sd_iconst (pc := 78) (kt_tab_get kx_K_look 14 rfl) kc_i_1 <|
  sd_goto (pc := 79) (tgt := 83) (kt_tab_get kx_K_look 15 rfl) rfl kz_K_look_83
noncomputable def kd_K_look_68 : kt_D := ki_aload 0 <| ki_get kt_shC 6 0 <| ki_get kt_shC 5 6 <| ki_if_eq (ki_drop 0 kd_K_look_82) (ki_drop 0 kd_K_look_78)
theorem kz_K_look_68 : kt_Snd l kt_shC kb_K_look 2 RX6 (some .int) 1 0 0 true true 68 kd_K_look_68 :=
  sd_aload_n (pc := 68) (kt_tab_get kx_K_look 10 rfl) rfl <|
  sd_get (pc := 69) (k := 0) (ci := 6) kt_hc6 kt_hin6 (by decide) (kt_tab_get kx_K_look 11 rfl) (kg_K_look_in _ (List.mem_of_getElem? (i := 4) rfl)) <|
  sd_getN (pc := 72) (k := 6) (ci := 5) kt_hc5 kt_hin5 (by decide) (kt_tab_get kx_K_look 12 rfl) (List.mem_of_getElem? (i := 5) rfl) <|
  sd_if_eq (pc := 75) (tgt := 82) (kt_tab_get kx_K_look 13 rfl) rfl (sd_drop (k := 0) kz_K_look_82) (sd_drop (k := 0) kz_K_look_78)
noncomputable def kd_K_look_84 : kt_D := ki_aload 0 <| ki_get kt_shC 6 0 <| ki_get kt_shC 5 7 <| ki_iret
theorem kz_K_look_84 : kt_Snd l kt_shC kb_K_look 2 RX6 (some .int) 1 0 0 true true 84 kd_K_look_84 :=
  sd_aload_n (pc := 84) (kt_tab_get kx_K_look 18 rfl) rfl <|
  sd_get (pc := 85) (k := 0) (ci := 6) kt_hc6 kt_hin6 (by decide) (kt_tab_get kx_K_look 19 rfl) (kg_K_look_in _ (List.mem_of_getElem? (i := 4) rfl)) <|
  sd_getN (pc := 88) (k := 7) (ci := 5) kt_hc5 kt_hin5 (by decide) (kt_tab_get kx_K_look 20 rfl) (List.mem_of_getElem? (i := 16) rfl) <|
  sd_iret (pc := 91) rfl (by decide) (kt_tab_get kx_K_look 21 rfl)
noncomputable def kd_K_look_92 : kt_D := ki_aload 0 <| ki_get kt_shC 6 0 <| ki_get kt_shC 5 8 <| ki_iret
theorem kz_K_look_92 : kt_Snd l kt_shC kb_K_look 2 RX6 (some .int) 1 0 0 true true 92 kd_K_look_92 :=
  sd_aload_n (pc := 92) (kt_tab_get kx_K_look 22 rfl) rfl <|
  sd_get (pc := 93) (k := 0) (ci := 6) kt_hc6 kt_hin6 (by decide) (kt_tab_get kx_K_look 23 rfl) (kg_K_look_in _ (List.mem_of_getElem? (i := 4) rfl)) <|
  sd_getN (pc := 96) (k := 8) (ci := 5) kt_hc5 kt_hin5 (by decide) (kt_tab_get kx_K_look 24 rfl) (List.mem_of_getElem? (i := 17) rfl) <|
  sd_iret (pc := 99) rfl (by decide) (kt_tab_get kx_K_look 25 rfl)
noncomputable def kd_K_look_100 : kt_D := ki_aload 0 <| ki_get kt_shC 6 0 <| ki_get kt_shC 5 10 <| ki_aload 0 <| ki_get kt_shC 6 0 <| ki_get kt_shC 5 9 <| ki_isub <| ki_iret
theorem kz_K_look_100 : kt_Snd l kt_shC kb_K_look 2 RX6 (some .int) 1 0 0 true true 100 kd_K_look_100 :=
  sd_aload_n (pc := 100) (kt_tab_get kx_K_look 26 rfl) rfl <|
  sd_get (pc := 101) (k := 0) (ci := 6) kt_hc6 kt_hin6 (by decide) (kt_tab_get kx_K_look 27 rfl) (kg_K_look_in _ (List.mem_of_getElem? (i := 4) rfl)) <|
  sd_getN (pc := 104) (k := 10) (ci := 5) kt_hc5 kt_hin5 (by decide) (kt_tab_get kx_K_look 28 rfl) (List.mem_of_getElem? (i := 18) rfl) <|
  sd_aload_n (pc := 107) (kt_tab_get kx_K_look 29 rfl) rfl <|
  sd_get (pc := 108) (k := 0) (ci := 6) kt_hc6 kt_hin6 (by decide) (kt_tab_get kx_K_look 30 rfl) (kg_K_look_in _ (List.mem_of_getElem? (i := 4) rfl)) <|
  sd_getN (pc := 111) (k := 9) (ci := 5) kt_hc5 kt_hin5 (by decide) (kt_tab_get kx_K_look 31 rfl) (List.mem_of_getElem? (i := 19) rfl) <|
  sd_isub (pc := 114) (kt_tab_get kx_K_look 32 rfl) <|
  sd_iret (pc := 115) rfl (by decide) (kt_tab_get kx_K_look 33 rfl)
noncomputable def kd_K_look_116 : kt_D := ki_aload 0 <| ki_get kt_shC 6 0 <| ki_get kt_shC 5 0 <| ki_get kt_shC 4 1 <| ki_iret
theorem kz_K_look_116 : kt_Snd l kt_shC kb_K_look 2 RX6 (some .int) 1 0 0 true true 116 kd_K_look_116 :=
  sd_aload_n (pc := 116) (kt_tab_get kx_K_look 34 rfl) rfl <|
  sd_get (pc := 117) (k := 0) (ci := 6) kt_hc6 kt_hin6 (by decide) (kt_tab_get kx_K_look 35 rfl) (kg_K_look_in _ (List.mem_of_getElem? (i := 4) rfl)) <|
  sd_getN (pc := 120) (k := 0) (ci := 5) kt_hc5 kt_hin5 (by decide) (kt_tab_get kx_K_look 36 rfl) (List.mem_of_getElem? (i := 10) rfl) <|
  sd_getN (pc := 123) (k := 1) (ci := 4) kt_hc4 kt_hin4 (by decide) (kt_tab_get kx_K_look 37 rfl) (List.mem_of_getElem? (i := 20) rfl) <|
  sd_iret (pc := 126) rfl (by decide) (kt_tab_get kx_K_look 38 rfl)
noncomputable def kd_K_look_127 : kt_D := ki_aload 0 <| ki_get kt_shC 6 0 <| ki_get kt_shC 5 2 <| ki_get kt_shC 2 0 <| ki_callV kt_shC 0 0 kf_B_left <| ki_iret
theorem kz_K_look_127 : kt_Snd l kt_shC kb_K_look 2 RX6 (some .int) 1 0 0 true true 127 kd_K_look_127 :=
  sd_aload_n (pc := 127) (kt_tab_get kx_K_look 39 rfl) rfl <|
  sd_get (pc := 128) (k := 0) (ci := 6) kt_hc6 kt_hin6 (by decide) (kt_tab_get kx_K_look 40 rfl) (kg_K_look_in _ (List.mem_of_getElem? (i := 4) rfl)) <|
  sd_getN (pc := 131) (k := 2) (ci := 5) kt_hc5 kt_hin5 (by decide) (kt_tab_get kx_K_look 41 rfl) (List.mem_of_getElem? (i := 7) rfl) <|
  sd_getN (pc := 134) (k := 0) (ci := 2) kt_hc2 kt_hin2 (by decide) (kt_tab_get kx_K_look 42 rfl) (List.mem_of_getElem? (i := 8) rfl) <|
  sd_callV (pc := 137) km_B_left (by decide) kv_B_left (ci := 0) kt_hc0 (by decide) (kt_tab_get kx_K_look 43 rfl) (kg_K_look_in _ (List.mem_of_getElem? (i := 5) rfl)) <|
  sd_iret (pc := 140) rfl (by decide) (kt_tab_get kx_K_look 44 rfl)
noncomputable def kd_K_look_141 : kt_D := ki_aload 0 <| ki_get kt_shC 6 0 <| ki_get kt_shC 5 13 <| ki_iret
theorem kz_K_look_141 : kt_Snd l kt_shC kb_K_look 2 RX6 (some .int) 1 0 0 true true 141 kd_K_look_141 :=
  sd_aload_n (pc := 141) (kt_tab_get kx_K_look 45 rfl) rfl <|
  sd_get (pc := 142) (k := 0) (ci := 6) kt_hc6 kt_hin6 (by decide) (kt_tab_get kx_K_look 46 rfl) (kg_K_look_in _ (List.mem_of_getElem? (i := 4) rfl)) <|
  sd_getN (pc := 145) (k := 13) (ci := 5) kt_hc5 kt_hin5 (by decide) (kt_tab_get kx_K_look 47 rfl) (List.mem_of_getElem? (i := 21) rfl) <|
  sd_iret (pc := 148) rfl (by decide) (kt_tab_get kx_K_look 48 rfl)
noncomputable def kd_K_look_149 : kt_D := ki_aload 0 <| ki_get kt_shC 6 0 <| ki_get kt_shC 5 1 <| ki_get kt_shC 3 1 <| ki_iret
theorem kz_K_look_149 : kt_Snd l kt_shC kb_K_look 2 RX6 (some .int) 1 0 0 true true 149 kd_K_look_149 :=
  sd_aload_n (pc := 149) (kt_tab_get kx_K_look 49 rfl) rfl <|
  sd_get (pc := 150) (k := 0) (ci := 6) kt_hc6 kt_hin6 (by decide) (kt_tab_get kx_K_look 50 rfl) (kg_K_look_in _ (List.mem_of_getElem? (i := 4) rfl)) <|
  sd_getN (pc := 153) (k := 1) (ci := 5) kt_hc5 kt_hin5 (by decide) (kt_tab_get kx_K_look 51 rfl) (List.mem_of_getElem? (i := 14) rfl) <|
  sd_getN (pc := 156) (k := 1) (ci := 3) kt_hc3 kt_hin3 (by decide) (kt_tab_get kx_K_look 52 rfl) (List.mem_of_getElem? (i := 15) rfl) <|
  sd_iret (pc := 159) rfl (by decide) (kt_tab_get kx_K_look 53 rfl)
noncomputable def kd_K_look_160 : kt_D := ki_push (.int (-1)) <| ki_iret
theorem kz_K_look_160 : kt_Snd l kt_shC kb_K_look 2 RX6 (some .int) 1 0 0 true true 160 kd_K_look_160 :=
  sd_iconst (pc := 160) (kt_tab_get kx_K_look 54 rfl) kc_i_m1 <|
  sd_iret (pc := 161) rfl (by decide) (kt_tab_get kx_K_look 55 rfl)
noncomputable def kd_K_look_0 : kt_D := ki_iload 1 <| ki_tsw 0 8 [(ki_drop 1 kd_K_look_52), (ki_drop 1 kd_K_look_68), (ki_drop 1 kd_K_look_84), (ki_drop 1 kd_K_look_92), (ki_drop 1 kd_K_look_100), (ki_drop 1 kd_K_look_116), (ki_drop 1 kd_K_look_127), (ki_drop 1 kd_K_look_141), (ki_drop 1 kd_K_look_149)] (ki_drop 1 (ki_drop 0 kd_K_look_160))
theorem kz_K_look_0 : kt_Snd l kt_shC kb_K_look 2 RX6 (some .int) 1 0 0 true true 0 kd_K_look_0 :=
  sd_iload_n (pc := 0) (kt_tab_get kx_K_look 0 rfl) rfl <|
  sd_tsw (pc := 1) (tgt := 160) (kt_tab_get kx_K_look 1 rfl) rfl (sd_drop (k := 1) (sd_drop (k := 0) kz_K_look_160)) ⟨⟨52, rfl, (sd_drop (k := 1) kz_K_look_52)⟩, ⟨68, rfl, (sd_drop (k := 1) kz_K_look_68)⟩, ⟨84, rfl, (sd_drop (k := 1) kz_K_look_84)⟩, ⟨92, rfl, (sd_drop (k := 1) kz_K_look_92)⟩, ⟨100, rfl, (sd_drop (k := 1) kz_K_look_100)⟩, ⟨116, rfl, (sd_drop (k := 1) kz_K_look_116)⟩, ⟨127, rfl, (sd_drop (k := 1) kz_K_look_127)⟩, ⟨141, rfl, (sd_drop (k := 1) kz_K_look_141)⟩, ⟨149, rfl, (sd_drop (k := 1) kz_K_look_149)⟩, trivial⟩
noncomputable def kf_K_look : kt_F := kt_run 2 kd_K_look_0
theorem km_K_look : kt_M l kt_shC ky_K_look kb_K_look 2 (some .int) 1 true kf_K_look := kt_method (by decide) rfl kz_K_look_0
end
