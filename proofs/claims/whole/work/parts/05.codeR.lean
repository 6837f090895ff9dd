section
variable {l : Launch}
noncomputable def kd_R_command_23 : kt_D := ki_iret
theorem kz_R_command_23 : kt_Snd l kt_shC kb_R_command 1 RX2 (some .int) 1 0 0 true true 23 kd_R_command_23 :=
  sd_iret (pc := 23) rfl (by decide) (kt_tab_get kx_R_command 11 rfl)
noncomputable def kd_R_command_14 : kt_D := ki_aload 0 <| ki_get kt_shC 2 0 <| ki_get kt_shC 0 0 <| ki_push (.int 0) <| ki_iald kt_shC <| (ki_drop 0 kd_R_command_23)
theorem kz_R_command_14 : kt_Snd l kt_shC kb_R_command 1 RX2 (some .int) 1 0 0 true true 14 kd_R_command_14 :=
  sd_aload_n (pc := 14) (kt_tab_get kx_R_command 6 rfl) rfl <|
  sd_get (pc := 15) (k := 0) (ci := 2) kt_hc2 kt_hin2 (by decide) (kt_tab_get kx_R_command 7 rfl) (kg_R_command_in _ (List.mem_of_getElem? (i := 4) rfl)) <|
  sd_getN (pc := 18) (k := 0) (ci := 0) kt_hc0 kt_hin0 (by decide) (kt_tab_get kx_R_command 8 rfl) (List.mem_of_getElem? (i := 0) rfl) <|
  sd_iconst (pc := 21) (kt_tab_get kx_R_command 9 rfl) kc_i_0 <|
  sd_iald (pc := 22) (kt_tab_get kx_R_command 10 rfl) <|
  (sd_drop (k := 0) kz_R_command_23)
noncomputable def kd_R_command_10 : kt_D := ki_push (.int 0) <| kd_R_command_23
theorem kz_R_command_10 : kt_Snd l kt_shC kb_R_command 1 RX2 (some .int) 1 0 0 true true 10 kd_R_command_10 :=
  sd_iconst (pc := 10) (kt_tab_get kx_R_command 4 rfl) kc_i_0 <|
  sd_goto (pc := 11) (tgt := 23) (kt_tab_get kx_R_command 5 rfl) rfl kz_R_command_23
noncomputable def kd_R_command_0 : kt_D := ki_aload 0 <| ki_get kt_shC 2 0 <| ki_callV kt_shC 0 0 kf_B_left <| ki_if_ne kd_R_command_14 (ki_drop 0 kd_R_command_10)
theorem kz_R_command_0 : kt_Snd l kt_shC kb_R_command 1 RX2 (some .int) 1 0 0 true true 0 kd_R_command_0 :=
  sd_aload_n (pc := 0) (kt_tab_get kx_R_command 0 rfl) rfl <|
  sd_get (pc := 1) (k := 0) (ci := 2) kt_hc2 kt_hin2 (by decide) (kt_tab_get kx_R_command 1 rfl) (kg_R_command_in _ (List.mem_of_getElem? (i := 4) rfl)) <|
  sd_callV (pc := 4) km_B_left (by decide) kv_B_left (ci := 0) kt_hc0 (by decide) (kt_tab_get kx_R_command 2 rfl) (kg_R_command_in _ (List.mem_of_getElem? (i := 5) rfl)) <|
  sd_if_ne (pc := 7) (tgt := 14) (kt_tab_get kx_R_command 3 rfl) rfl kz_R_command_14 (sd_drop (k := 0) kz_R_command_10)
noncomputable def kf_R_command : kt_F := kt_run 1 kd_R_command_0
theorem km_R_command : kt_M l kt_shC ky_R_command kb_R_command 1 (some .int) 1 true kf_R_command := kt_method (by decide) rfl kz_R_command_0
noncomputable def kd_R_readWide_105 : kt_D := ki_zret
theorem kz_R_readWide_105 : kt_Snd l kt_shC kb_R_readWide 3 RX2 (some .boolean) 0 0 0 false false 105 kd_R_readWide_105 :=
  sd_zret (pc := 105) rfl (by decide) (kt_tab_get kx_R_readWide 56 rfl)
noncomputable def kd_R_readWide_104 : kt_D := ki_push (.int 0) <| kd_R_readWide_105
theorem kz_R_readWide_104 : kt_Snd l kt_shC kb_R_readWide 3 RX2 (some .boolean) 0 0 0 false false 104 kd_R_readWide_104 :=
  sd_iconst (pc := 104) (kt_tab_get kx_R_readWide 55 rfl) kc_i_0 <|
  kz_R_readWide_105
noncomputable def kd_R_readWide_100 : kt_D := ki_push (.int 1) <| kd_R_readWide_105
theorem kz_R_readWide_100 : kt_Snd l kt_shC kb_R_readWide 3 RX2 (some .boolean) 0 0 0 false false 100 kd_R_readWide_100 :=
  sd_iconst (pc := 100) (kt_tab_get kx_R_readWide 53 rfl) kc_i_1 <|
  sd_goto (pc := 101) (tgt := 105) (kt_tab_get kx_R_readWide 54 rfl) rfl kz_R_readWide_105
noncomputable def kd_R_readWide_97 : kt_D := ki_icmp_lt kd_R_readWide_104 kd_R_readWide_100
theorem kz_R_readWide_97 : kt_Snd l kt_shC kb_R_readWide 3 RX2 (some .boolean) 0 0 0 false false 97 kd_R_readWide_97 :=
  sd_icmp_lt (pc := 97) (tgt := 104) (kt_tab_get kx_R_readWide 52 rfl) rfl kz_R_readWide_104 kz_R_readWide_100
noncomputable def kd_R_readWide_95 : kt_D := ki_push (.int 65536) <| kd_R_readWide_97
theorem kz_R_readWide_95 : kt_Snd l kt_shC kb_R_readWide 3 RX2 (some .boolean) 0 0 0 false false 95 kd_R_readWide_95 :=
  sd_ldc (pc := 95) (kt_tab_get kx_R_readWide 51 rfl) (kg_R_readWide_in _ (List.mem_of_getElem? (i := 4) rfl)) <|
  kz_R_readWide_97
noncomputable def kd_R_readWide_89 : kt_D := ki_push (.int 256) <| kd_R_readWide_97
theorem kz_R_readWide_89 : kt_Snd l kt_shC kb_R_readWide 3 RX2 (some .boolean) 0 0 0 false false 89 kd_R_readWide_89 :=
  sd_sipush (pc := 89) (kt_tab_get kx_R_readWide 49 rfl) kc_s_256 <|
  sd_goto (pc := 92) (tgt := 97) (kt_tab_get kx_R_readWide 50 rfl) rfl kz_R_readWide_97
noncomputable def kd_R_readWide_84 : kt_D := ki_iload 1 <| ki_push (.int 2) <| ki_icmp_ne (ki_drop 1 kd_R_readWide_95) (ki_drop 1 kd_R_readWide_89)
theorem kz_R_readWide_84 : kt_Snd l kt_shC kb_R_readWide 3 RX2 (some .boolean) 0 0 0 false false 84 kd_R_readWide_84 :=
  sd_iload_n (pc := 84) (kt_tab_get kx_R_readWide 46 rfl) rfl <|
  sd_iconst (pc := 85) (kt_tab_get kx_R_readWide 47 rfl) kc_i_2 <|
  sd_icmp_ne (pc := 86) (tgt := 95) (kt_tab_get kx_R_readWide 48 rfl) rfl (sd_drop (k := 1) kz_R_readWide_95) (sd_drop (k := 1) kz_R_readWide_89)
noncomputable def kd_R_readWide_79 : kt_D := ki_push (.int 24) <| kd_R_readWide_97
theorem kz_R_readWide_79 : kt_Snd l kt_shC kb_R_readWide 3 RX2 (some .boolean) 0 0 0 false false 79 kd_R_readWide_79 :=
  sd_bipush (pc := 79) (kt_tab_get kx_R_readWide 44 rfl) kc_b_24 <|
  sd_goto (pc := 81) (tgt := 97) (kt_tab_get kx_R_readWide 45 rfl) rfl kz_R_readWide_97
noncomputable def kd_R_readWide_70 : kt_D := ki_aload 0 <| ki_get kt_shC 2 6 <| ki_iload 1 <| ki_push (.int 1) <| ki_icmp_ne (ki_drop 0 kd_R_readWide_84) (ki_drop 1 (ki_drop 0 kd_R_readWide_79))
theorem kz_R_readWide_70 : kt_Snd l kt_shC kb_R_readWide 3 RX2 (some .boolean) 0 0 0 false false 70 kd_R_readWide_70 :=
  sd_aload_n (pc := 70) (kt_tab_get kx_R_readWide 39 rfl) rfl <|
  sd_get (pc := 71) (k := 6) (ci := 2) kt_hc2 kt_hin2 (by decide) (kt_tab_get kx_R_readWide 40 rfl) (kg_R_readWide_in _ (List.mem_of_getElem? (i := 5) rfl)) <|
  sd_iload_n (pc := 74) (kt_tab_get kx_R_readWide 41 rfl) rfl <|
  sd_iconst (pc := 75) (kt_tab_get kx_R_readWide 42 rfl) kc_i_1 <|
  sd_icmp_ne (pc := 76) (tgt := 84) (kt_tab_get kx_R_readWide 43 rfl) rfl (sd_drop (k := 0) kz_R_readWide_84) (sd_drop (k := 1) (sd_drop (k := 0) kz_R_readWide_79))
noncomputable def kd_R_readWide_30 (kh_25 : kt_D) : kt_D := ki_aload 0 <| ki_aload 0 <| ki_get kt_shC 2 6 <| ki_push (.int 8) <| ki_ishl <| ki_aload 0 <| ki_get kt_shC 2 0 <| ki_get kt_shC 0 0 <| ki_aload 0 <| ki_get kt_shC 2 4 <| ki_iald kt_shC <| ki_ior <| ki_put kt_shC 2 6 0 <| ki_aload 0 <| ki_dup <| ki_get kt_shC 2 4 <| ki_push (.int 1) <| ki_iadd <| ki_put kt_shC 2 4 0 <| ki_iinc 2 1 <| kh_25
theorem kz_R_readWide_30 {kh_25 : kt_D} (zh_25 : kt_Snd l kt_shC kb_R_readWide 3 RX2 (some .boolean) 0 0 0 false false 25 kh_25) : kt_Snd l kt_shC kb_R_readWide 3 RX2 (some .boolean) 0 0 0 false false 30 (kd_R_readWide_30 kh_25) :=
  sd_aload_n (pc := 30) (kt_tab_get kx_R_readWide 18 rfl) rfl <|
  sd_aload_n (pc := 31) (kt_tab_get kx_R_readWide 19 rfl) rfl <|
  sd_get (pc := 32) (k := 6) (ci := 2) kt_hc2 kt_hin2 (by decide) (kt_tab_get kx_R_readWide 20 rfl) (kg_R_readWide_in _ (List.mem_of_getElem? (i := 5) rfl)) <|
  sd_bipush (pc := 35) (kt_tab_get kx_R_readWide 21 rfl) kc_b_8 <|
  sd_ishl (pc := 37) (kt_tab_get kx_R_readWide 22 rfl) <|
  sd_aload_n (pc := 38) (kt_tab_get kx_R_readWide 23 rfl) rfl <|
  sd_get (pc := 39) (k := 0) (ci := 2) kt_hc2 kt_hin2 (by decide) (kt_tab_get kx_R_readWide 24 rfl) (kg_R_readWide_in _ (List.mem_of_getElem? (i := 6) rfl)) <|
  sd_getN (pc := 42) (k := 0) (ci := 0) kt_hc0 kt_hin0 (by decide) (kt_tab_get kx_R_readWide 25 rfl) (List.mem_of_getElem? (i := 0) rfl) <|
  sd_aload_n (pc := 45) (kt_tab_get kx_R_readWide 26 rfl) rfl <|
  sd_get (pc := 46) (k := 4) (ci := 2) kt_hc2 kt_hin2 (by decide) (kt_tab_get kx_R_readWide 27 rfl) (kg_R_readWide_in _ (List.mem_of_getElem? (i := 7) rfl)) <|
  sd_iald (pc := 49) (kt_tab_get kx_R_readWide 28 rfl) <|
  sd_ior (pc := 50) (kt_tab_get kx_R_readWide 29 rfl) <|
  sd_put (pc := 51) (k := 6) (ci := 2) kt_hc2 kt_hin2 tyX2_ok nmX2 (by decide) rfl rfl (Or.inl ⟨rfl, rfl⟩) (kt_tab_get kx_R_readWide 30 rfl) (kg_R_readWide_in _ (List.mem_of_getElem? (i := 5) rfl)) <|
  sd_aload_n (pc := 54) (kt_tab_get kx_R_readWide 31 rfl) rfl <|
  sd_dup (pc := 55) (kt_tab_get kx_R_readWide 32 rfl) <|
  sd_get (pc := 56) (k := 4) (ci := 2) kt_hc2 kt_hin2 (by decide) (kt_tab_get kx_R_readWide 33 rfl) (kg_R_readWide_in _ (List.mem_of_getElem? (i := 7) rfl)) <|
  sd_iconst (pc := 59) (kt_tab_get kx_R_readWide 34 rfl) kc_i_1 <|
  sd_iadd (pc := 60) (kt_tab_get kx_R_readWide 35 rfl) <|
  sd_put (pc := 61) (k := 4) (ci := 2) kt_hc2 kt_hin2 tyX2_ok nmX2 (by decide) rfl rfl (Or.inl ⟨rfl, rfl⟩) (kt_tab_get kx_R_readWide 36 rfl) (kg_R_readWide_in _ (List.mem_of_getElem? (i := 7) rfl)) <|
  sd_iinc (pc := 64) (kt_tab_get kx_R_readWide 37 rfl) kc_i_1 (by decide) <|
  sd_goto (pc := 67) (tgt := 25) (kt_tab_get kx_R_readWide 38 rfl) rfl zh_25
noncomputable def kd_R_readWide_25b (kh_25 : kt_D) : kt_D := ki_iload 2 <| ki_iload 1 <| ki_icmp_ge (ki_drop 2 kd_R_readWide_70) (kd_R_readWide_30 kh_25)
theorem kz_R_readWide_25b {kh_25 : kt_D} (zh_25 : kt_Snd l kt_shC kb_R_readWide 3 RX2 (some .boolean) 0 0 0 false false 25 kh_25) : kt_Snd l kt_shC kb_R_readWide 3 RX2 (some .boolean) 0 0 0 false false 25 (kd_R_readWide_25b kh_25) :=
  sd_iload_n (pc := 25) (kt_tab_get kx_R_readWide 15 rfl) rfl <|
  sd_iload_n (pc := 26) (kt_tab_get kx_R_readWide 16 rfl) rfl <|
  sd_icmp_ge (pc := 27) (tgt := 70) (kt_tab_get kx_R_readWide 17 rfl) rfl (sd_drop (k := 2) kz_R_readWide_70) (kz_R_readWide_30 zh_25)
noncomputable def kd_R_readWide_25 (n : Nat) : kt_D := Nat.rec (fun _ _ _ => none) (fun _ ih => kd_R_readWide_25b ih) n
theorem kz_R_readWide_25 (n : Nat) : kt_Snd l kt_shC kb_R_readWide 3 RX2 (some .boolean) 0 0 0 false false 25 (kd_R_readWide_25 n) := by
  induction n with
  | zero => exact sd_fail
  | succ n ih => exact kz_R_readWide_25b ih
noncomputable def kd_R_readWide_18 : kt_D := ki_aload 0 <| ki_push (.int 0) <| ki_put kt_shC 2 6 0 <| ki_push (.int 0) <| ki_istore 2 <| (kd_R_readWide_25 100)
theorem kz_R_readWide_18 : kt_Snd l kt_shC kb_R_readWide 3 RX2 (some .boolean) 0 0 0 false false 18 kd_R_readWide_18 :=
  sd_aload_n (pc := 18) (kt_tab_get kx_R_readWide 10 rfl) rfl <|
  sd_iconst (pc := 19) (kt_tab_get kx_R_readWide 11 rfl) kc_i_0 <|
  sd_put (pc := 20) (k := 6) (ci := 2) kt_hc2 kt_hin2 tyX2_ok nmX2 (by decide) rfl rfl (Or.inl ⟨rfl, rfl⟩) (kt_tab_get kx_R_readWide 12 rfl) (kg_R_readWide_in _ (List.mem_of_getElem? (i := 5) rfl)) <|
  sd_iconst (pc := 23) (kt_tab_get kx_R_readWide 13 rfl) kc_i_0 <|
  sd_istore_n (pc := 24) (kt_tab_get kx_R_readWide 14 rfl) rfl (by decide) <|
  (kz_R_readWide_25 100)
noncomputable def kd_R_readWide_16 : kt_D := ki_push (.int 0) <| ki_zret
theorem kz_R_readWide_16 : kt_Snd l kt_shC kb_R_readWide 3 RX2 (some .boolean) 0 0 0 false false 16 kd_R_readWide_16 :=
  sd_iconst (pc := 16) (kt_tab_get kx_R_readWide 8 rfl) kc_i_0 <|
  sd_zret (pc := 17) rfl (by decide) (kt_tab_get kx_R_readWide 9 rfl)
noncomputable def kd_R_readWide_0 : kt_D := ki_iload 1 <| ki_aload 0 <| ki_get kt_shC 2 0 <| ki_get kt_shC 0 2 <| ki_aload 0 <| ki_get kt_shC 2 4 <| ki_isub <| ki_icmp_le kd_R_readWide_18 (ki_drop 1 (ki_drop 0 kd_R_readWide_16))
theorem kz_R_readWide_0 : kt_Snd l kt_shC kb_R_readWide 3 RX2 (some .boolean) 0 0 0 false false 0 kd_R_readWide_0 :=
  sd_iload_n (pc := 0) (kt_tab_get kx_R_readWide 0 rfl) rfl <|
  sd_aload_n (pc := 1) (kt_tab_get kx_R_readWide 1 rfl) rfl <|
  sd_get (pc := 2) (k := 0) (ci := 2) kt_hc2 kt_hin2 (by decide) (kt_tab_get kx_R_readWide 2 rfl) (kg_R_readWide_in _ (List.mem_of_getElem? (i := 6) rfl)) <|
  sd_getN (pc := 5) (k := 2) (ci := 0) kt_hc0 kt_hin0 (by decide) (kt_tab_get kx_R_readWide 3 rfl) (List.mem_of_getElem? (i := 1) rfl) <|
  sd_aload_n (pc := 8) (kt_tab_get kx_R_readWide 4 rfl) rfl <|
  sd_get (pc := 9) (k := 4) (ci := 2) kt_hc2 kt_hin2 (by decide) (kt_tab_get kx_R_readWide 5 rfl) (kg_R_readWide_in _ (List.mem_of_getElem? (i := 7) rfl)) <|
  sd_isub (pc := 12) (kt_tab_get kx_R_readWide 6 rfl) <|
  sd_icmp_le (pc := 13) (tgt := 18) (kt_tab_get kx_R_readWide 7 rfl) rfl kz_R_readWide_18 (sd_drop (k := 1) (sd_drop (k := 0) kz_R_readWide_16))
noncomputable def kf_R_readWide : kt_F := kt_run 3 kd_R_readWide_0
theorem km_R_readWide : kt_M l kt_shC ky_R_readWide kb_R_readWide 3 (some .boolean) 0 false kf_R_readWide := kt_method (by decide) rfl kz_R_readWide_0
noncomputable def kd_R_readHead_21 : kt_D := ki_push (.int 0) <| ki_zret
theorem kz_R_readHead_21 : kt_Snd l kt_shC kb_R_readHead 1 RX2 (some .boolean) 1 0 0 false false 21 kd_R_readHead_21 :=
  sd_iconst (pc := 21) (kt_tab_get kx_R_readHead 9 rfl) kc_i_0 <|
  sd_zret (pc := 22) rfl (by decide) (kt_tab_get kx_R_readHead 10 rfl)
noncomputable def kd_R_readHead_120 : kt_D := ki_push (.int 0) <| ki_zret
theorem kz_R_readHead_120 : kt_Snd l kt_shC kb_R_readHead 1 RX2 (some .boolean) 1 0 0 false false 120 kd_R_readHead_120 :=
  sd_iconst (pc := 120) (kt_tab_get kx_R_readHead 61 rfl) kc_i_0 <|
  sd_zret (pc := 121) rfl (by decide) (kt_tab_get kx_R_readHead 62 rfl)
noncomputable def kd_R_readHead_161 : kt_D := ki_zret
theorem kz_R_readHead_161 : kt_Snd l kt_shC kb_R_readHead 1 RX2 (some .boolean) 1 0 0 false false 161 kd_R_readHead_161 :=
  sd_zret (pc := 161) rfl (by decide) (kt_tab_get kx_R_readHead 83 rfl)
noncomputable def kd_R_readHead_156 : kt_D := ki_push (.int 1) <| kd_R_readHead_161
theorem kz_R_readHead_156 : kt_Snd l kt_shC kb_R_readHead 1 RX2 (some .boolean) 1 0 0 false false 156 kd_R_readHead_156 :=
  sd_iconst (pc := 156) (kt_tab_get kx_R_readHead 80 rfl) kc_i_1 <|
  sd_goto (pc := 157) (tgt := 161) (kt_tab_get kx_R_readHead 81 rfl) rfl kz_R_readHead_161
noncomputable def kd_R_readHead_160 : kt_D := ki_push (.int 0) <| kd_R_readHead_161
theorem kz_R_readHead_160 : kt_Snd l kt_shC kb_R_readHead 1 RX2 (some .boolean) 1 0 0 false false 160 kd_R_readHead_160 :=
  sd_iconst (pc := 160) (kt_tab_get kx_R_readHead 82 rfl) kc_i_0 <|
  kz_R_readHead_161
noncomputable def kd_R_readHead_140 : kt_D := ki_aload 0 <| ki_push (.int 1) <| ki_aload 0 <| ki_get kt_shC 2 6 <| ki_push (.int 24) <| ki_isub <| ki_ishl <| ki_callV kt_shC 2 1 kf_R_readWide <| ki_if_eq (ki_drop 0 kd_R_readHead_160) (ki_drop 0 kd_R_readHead_156)
theorem kz_R_readHead_140 : kt_Snd l kt_shC kb_R_readHead 1 RX2 (some .boolean) 1 0 0 false false 140 kd_R_readHead_140 :=
  sd_aload_n (pc := 140) (kt_tab_get kx_R_readHead 71 rfl) rfl <|
  sd_iconst (pc := 141) (kt_tab_get kx_R_readHead 72 rfl) kc_i_1 <|
  sd_aload_n (pc := 142) (kt_tab_get kx_R_readHead 73 rfl) rfl <|
  sd_get (pc := 143) (k := 6) (ci := 2) kt_hc2 kt_hin2 (by decide) (kt_tab_get kx_R_readHead 74 rfl) (kg_R_readHead_in _ (List.mem_of_getElem? (i := 4) rfl)) <|
  sd_bipush (pc := 146) (kt_tab_get kx_R_readHead 75 rfl) kc_b_24 <|
  sd_isub (pc := 148) (kt_tab_get kx_R_readHead 76 rfl) <|
  sd_ishl (pc := 149) (kt_tab_get kx_R_readHead 77 rfl) <|
  sd_callV (pc := 150) km_R_readWide (by decide) kv_R_readWide (ci := 2) kt_hc2 (by decide) (kt_tab_get kx_R_readHead 78 rfl) (kg_R_readHead_in _ (List.mem_of_getElem? (i := 5) rfl)) <|
  sd_if_eq (pc := 153) (tgt := 160) (kt_tab_get kx_R_readHead 79 rfl) rfl (sd_drop (k := 0) kz_R_readHead_160) (sd_drop (k := 0) kz_R_readHead_156)
noncomputable def kd_R_readHead_131 : kt_D := ki_aload 0 <| ki_get kt_shC 2 6 <| ki_push (.int 26) <| ki_icmp_gt (ki_drop 0 kd_R_readHead_160) kd_R_readHead_140
theorem kz_R_readHead_131 : kt_Snd l kt_shC kb_R_readHead 1 RX2 (some .boolean) 1 0 0 false false 131 kd_R_readHead_131 :=
  sd_aload_n (pc := 131) (kt_tab_get kx_R_readHead 67 rfl) rfl <|
  sd_get (pc := 132) (k := 6) (ci := 2) kt_hc2 kt_hin2 (by decide) (kt_tab_get kx_R_readHead 68 rfl) (kg_R_readHead_in _ (List.mem_of_getElem? (i := 4) rfl)) <|
  sd_bipush (pc := 135) (kt_tab_get kx_R_readHead 69 rfl) kc_b_26 <|
  sd_icmp_gt (pc := 137) (tgt := 160) (kt_tab_get kx_R_readHead 70 rfl) rfl (sd_drop (k := 0) kz_R_readHead_160) kz_R_readHead_140
noncomputable def kd_R_readHead_122 : kt_D := ki_aload 0 <| ki_get kt_shC 2 6 <| ki_push (.int 24) <| ki_icmp_lt (ki_drop 0 kd_R_readHead_156) kd_R_readHead_131
theorem kz_R_readHead_122 : kt_Snd l kt_shC kb_R_readHead 1 RX2 (some .boolean) 1 0 0 false false 122 kd_R_readHead_122 :=
  sd_aload_n (pc := 122) (kt_tab_get kx_R_readHead 63 rfl) rfl <|
  sd_get (pc := 123) (k := 6) (ci := 2) kt_hc2 kt_hin2 (by decide) (kt_tab_get kx_R_readHead 64 rfl) (kg_R_readHead_in _ (List.mem_of_getElem? (i := 4) rfl)) <|
  sd_bipush (pc := 126) (kt_tab_get kx_R_readHead 65 rfl) kc_b_24 <|
  sd_icmp_lt (pc := 128) (tgt := 156) (kt_tab_get kx_R_readHead 66 rfl) rfl (sd_drop (k := 0) kz_R_readHead_156) kz_R_readHead_131
noncomputable def kd_R_readHead_111 : kt_D := ki_aload 0 <| ki_get kt_shC 2 5 <| ki_push (.int 6) <| ki_icmp_ne kd_R_readHead_122 (ki_drop 0 kd_R_readHead_120)
theorem kz_R_readHead_111 : kt_Snd l kt_shC kb_R_readHead 1 RX2 (some .boolean) 1 0 0 false false 111 kd_R_readHead_111 :=
  sd_aload_n (pc := 111) (kt_tab_get kx_R_readHead 57 rfl) rfl <|
  sd_get (pc := 112) (k := 5) (ci := 2) kt_hc2 kt_hin2 (by decide) (kt_tab_get kx_R_readHead 58 rfl) (kg_R_readHead_in _ (List.mem_of_getElem? (i := 6) rfl)) <|
  sd_bipush (pc := 115) (kt_tab_get kx_R_readHead 59 rfl) kc_b_6 <|
  sd_icmp_ne (pc := 117) (tgt := 122) (kt_tab_get kx_R_readHead 60 rfl) rfl kz_R_readHead_122 (sd_drop (k := 0) kz_R_readHead_120)
noncomputable def kd_R_readHead_103 : kt_D := ki_aload 0 <| ki_get kt_shC 2 5 <| ki_push (.int 1) <| ki_icmp_eq (ki_drop 0 kd_R_readHead_120) kd_R_readHead_111
theorem kz_R_readHead_103 : kt_Snd l kt_shC kb_R_readHead 1 RX2 (some .boolean) 1 0 0 false false 103 kd_R_readHead_103 :=
  sd_aload_n (pc := 103) (kt_tab_get kx_R_readHead 53 rfl) rfl <|
  sd_get (pc := 104) (k := 5) (ci := 2) kt_hc2 kt_hin2 (by decide) (kt_tab_get kx_R_readHead 54 rfl) (kg_R_readHead_in _ (List.mem_of_getElem? (i := 6) rfl)) <|
  sd_iconst (pc := 107) (kt_tab_get kx_R_readHead 55 rfl) kc_i_1 <|
  sd_icmp_eq (pc := 108) (tgt := 120) (kt_tab_get kx_R_readHead 56 rfl) rfl (sd_drop (k := 0) kz_R_readHead_120) kz_R_readHead_111
noncomputable def kd_R_readHead_102 : kt_D := ki_zret
theorem kz_R_readHead_102 : kt_Snd l kt_shC kb_R_readHead 1 RX2 (some .boolean) 1 0 0 false false 102 kd_R_readHead_102 :=
  sd_zret (pc := 102) rfl (by decide) (kt_tab_get kx_R_readHead 52 rfl)
noncomputable def kd_R_readHead_97 : kt_D := ki_push (.int 1) <| kd_R_readHead_102
theorem kz_R_readHead_97 : kt_Snd l kt_shC kb_R_readHead 1 RX2 (some .boolean) 1 0 0 false false 97 kd_R_readHead_97 :=
  sd_iconst (pc := 97) (kt_tab_get kx_R_readHead 49 rfl) kc_i_1 <|
  sd_goto (pc := 98) (tgt := 102) (kt_tab_get kx_R_readHead 50 rfl) rfl kz_R_readHead_102
noncomputable def kd_R_readHead_101 : kt_D := ki_push (.int 0) <| kd_R_readHead_102
theorem kz_R_readHead_101 : kt_Snd l kt_shC kb_R_readHead 1 RX2 (some .boolean) 1 0 0 false false 101 kd_R_readHead_101 :=
  sd_iconst (pc := 101) (kt_tab_get kx_R_readHead 51 rfl) kc_i_0 <|
  kz_R_readHead_102
noncomputable def kd_R_readHead_88 : kt_D := ki_aload 0 <| ki_get kt_shC 2 6 <| ki_push (.int 21) <| ki_icmp_ne (ki_drop 0 kd_R_readHead_101) (ki_drop 0 kd_R_readHead_97)
theorem kz_R_readHead_88 : kt_Snd l kt_shC kb_R_readHead 1 RX2 (some .boolean) 1 0 0 false false 88 kd_R_readHead_88 :=
  sd_aload_n (pc := 88) (kt_tab_get kx_R_readHead 45 rfl) rfl <|
  sd_get (pc := 89) (k := 6) (ci := 2) kt_hc2 kt_hin2 (by decide) (kt_tab_get kx_R_readHead 46 rfl) (kg_R_readHead_in _ (List.mem_of_getElem? (i := 4) rfl)) <|
  sd_bipush (pc := 92) (kt_tab_get kx_R_readHead 47 rfl) kc_b_21 <|
  sd_icmp_ne (pc := 94) (tgt := 101) (kt_tab_get kx_R_readHead 48 rfl) rfl (sd_drop (k := 0) kz_R_readHead_101) (sd_drop (k := 0) kz_R_readHead_97)
noncomputable def kd_R_readHead_79 : kt_D := ki_aload 0 <| ki_get kt_shC 2 6 <| ki_push (.int 20) <| ki_icmp_eq (ki_drop 0 kd_R_readHead_97) kd_R_readHead_88
theorem kz_R_readHead_79 : kt_Snd l kt_shC kb_R_readHead 1 RX2 (some .boolean) 1 0 0 false false 79 kd_R_readHead_79 :=
  sd_aload_n (pc := 79) (kt_tab_get kx_R_readHead 41 rfl) rfl <|
  sd_get (pc := 80) (k := 6) (ci := 2) kt_hc2 kt_hin2 (by decide) (kt_tab_get kx_R_readHead 42 rfl) (kg_R_readHead_in _ (List.mem_of_getElem? (i := 4) rfl)) <|
  sd_bipush (pc := 83) (kt_tab_get kx_R_readHead 43 rfl) kc_b_20 <|
  sd_icmp_eq (pc := 85) (tgt := 97) (kt_tab_get kx_R_readHead 44 rfl) rfl (sd_drop (k := 0) kz_R_readHead_97) kz_R_readHead_88
noncomputable def kd_R_readHead_23 : kt_D := ki_aload 0 <| ki_aload 0 <| ki_get kt_shC 2 0 <| ki_get kt_shC 0 0 <| ki_aload 0 <| ki_get kt_shC 2 4 <| ki_iald kt_shC <| ki_push (.int 5) <| ki_ishr <| ki_put kt_shC 2 5 0 <| ki_aload 0 <| ki_aload 0 <| ki_get kt_shC 2 0 <| ki_get kt_shC 0 0 <| ki_aload 0 <| ki_get kt_shC 2 4 <| ki_iald kt_shC <| ki_push (.int 31) <| ki_iand <| ki_put kt_shC 2 6 0 <| ki_aload 0 <| ki_dup <| ki_get kt_shC 2 4 <| ki_push (.int 1) <| ki_iadd <| ki_put kt_shC 2 4 0 <| ki_aload 0 <| ki_get kt_shC 2 5 <| ki_push (.int 7) <| ki_icmp_ne kd_R_readHead_103 kd_R_readHead_79
theorem kz_R_readHead_23 : kt_Snd l kt_shC kb_R_readHead 1 RX2 (some .boolean) 1 0 0 false false 23 kd_R_readHead_23 :=
  sd_aload_n (pc := 23) (kt_tab_get kx_R_readHead 11 rfl) rfl <|
  sd_aload_n (pc := 24) (kt_tab_get kx_R_readHead 12 rfl) rfl <|
  sd_get (pc := 25) (k := 0) (ci := 2) kt_hc2 kt_hin2 (by decide) (kt_tab_get kx_R_readHead 13 rfl) (kg_R_readHead_in _ (List.mem_of_getElem? (i := 7) rfl)) <|
  sd_getN (pc := 28) (k := 0) (ci := 0) kt_hc0 kt_hin0 (by decide) (kt_tab_get kx_R_readHead 14 rfl) (List.mem_of_getElem? (i := 0) rfl) <|
  sd_aload_n (pc := 31) (kt_tab_get kx_R_readHead 15 rfl) rfl <|
  sd_get (pc := 32) (k := 4) (ci := 2) kt_hc2 kt_hin2 (by decide) (kt_tab_get kx_R_readHead 16 rfl) (kg_R_readHead_in _ (List.mem_of_getElem? (i := 8) rfl)) <|
  sd_iald (pc := 35) (kt_tab_get kx_R_readHead 17 rfl) <|
  sd_iconst (pc := 36) (kt_tab_get kx_R_readHead 18 rfl) kc_i_5 <|
  sd_ishr (pc := 37) (kt_tab_get kx_R_readHead 19 rfl) <|
  sd_put (pc := 38) (k := 5) (ci := 2) kt_hc2 kt_hin2 tyX2_ok nmX2 (by decide) rfl rfl (Or.inl ⟨rfl, rfl⟩) (kt_tab_get kx_R_readHead 20 rfl) (kg_R_readHead_in _ (List.mem_of_getElem? (i := 6) rfl)) <|
  sd_aload_n (pc := 41) (kt_tab_get kx_R_readHead 21 rfl) rfl <|
  sd_aload_n (pc := 42) (kt_tab_get kx_R_readHead 22 rfl) rfl <|
  sd_get (pc := 43) (k := 0) (ci := 2) kt_hc2 kt_hin2 (by decide) (kt_tab_get kx_R_readHead 23 rfl) (kg_R_readHead_in _ (List.mem_of_getElem? (i := 7) rfl)) <|
  sd_getN (pc := 46) (k := 0) (ci := 0) kt_hc0 kt_hin0 (by decide) (kt_tab_get kx_R_readHead 24 rfl) (List.mem_of_getElem? (i := 0) rfl) <|
  sd_aload_n (pc := 49) (kt_tab_get kx_R_readHead 25 rfl) rfl <|
  sd_get (pc := 50) (k := 4) (ci := 2) kt_hc2 kt_hin2 (by decide) (kt_tab_get kx_R_readHead 26 rfl) (kg_R_readHead_in _ (List.mem_of_getElem? (i := 8) rfl)) <|
  sd_iald (pc := 53) (kt_tab_get kx_R_readHead 27 rfl) <|
  sd_bipush (pc := 54) (kt_tab_get kx_R_readHead 28 rfl) kc_b_31 <|
  sd_iand (pc := 56) (kt_tab_get kx_R_readHead 29 rfl) <|
  sd_put (pc := 57) (k := 6) (ci := 2) kt_hc2 kt_hin2 tyX2_ok nmX2 (by decide) rfl rfl (Or.inl ⟨rfl, rfl⟩) (kt_tab_get kx_R_readHead 30 rfl) (kg_R_readHead_in _ (List.mem_of_getElem? (i := 4) rfl)) <|
  sd_aload_n (pc := 60) (kt_tab_get kx_R_readHead 31 rfl) rfl <|
  sd_dup (pc := 61) (kt_tab_get kx_R_readHead 32 rfl) <|
  sd_get (pc := 62) (k := 4) (ci := 2) kt_hc2 kt_hin2 (by decide) (kt_tab_get kx_R_readHead 33 rfl) (kg_R_readHead_in _ (List.mem_of_getElem? (i := 8) rfl)) <|
  sd_iconst (pc := 65) (kt_tab_get kx_R_readHead 34 rfl) kc_i_1 <|
  sd_iadd (pc := 66) (kt_tab_get kx_R_readHead 35 rfl) <|
  sd_put (pc := 67) (k := 4) (ci := 2) kt_hc2 kt_hin2 tyX2_ok nmX2 (by decide) rfl rfl (Or.inl ⟨rfl, rfl⟩) (kt_tab_get kx_R_readHead 36 rfl) (kg_R_readHead_in _ (List.mem_of_getElem? (i := 8) rfl)) <|
  sd_aload_n (pc := 70) (kt_tab_get kx_R_readHead 37 rfl) rfl <|
  sd_get (pc := 71) (k := 5) (ci := 2) kt_hc2 kt_hin2 (by decide) (kt_tab_get kx_R_readHead 38 rfl) (kg_R_readHead_in _ (List.mem_of_getElem? (i := 6) rfl)) <|
  sd_bipush (pc := 74) (kt_tab_get kx_R_readHead 39 rfl) kc_b_7 <|
  sd_icmp_ne (pc := 76) (tgt := 103) (kt_tab_get kx_R_readHead 40 rfl) rfl kz_R_readHead_103 kz_R_readHead_79
noncomputable def kd_R_readHead_7 : kt_D := ki_aload 0 <| ki_get kt_shC 2 4 <| ki_aload 0 <| ki_get kt_shC 2 0 <| ki_get kt_shC 0 2 <| ki_icmp_lt kd_R_readHead_23 (ki_drop 0 kd_R_readHead_21)
theorem kz_R_readHead_7 : kt_Snd l kt_shC kb_R_readHead 1 RX2 (some .boolean) 1 0 0 false false 7 kd_R_readHead_7 :=
  sd_aload_n (pc := 7) (kt_tab_get kx_R_readHead 3 rfl) rfl <|
  sd_get (pc := 8) (k := 4) (ci := 2) kt_hc2 kt_hin2 (by decide) (kt_tab_get kx_R_readHead 4 rfl) (kg_R_readHead_in _ (List.mem_of_getElem? (i := 8) rfl)) <|
  sd_aload_n (pc := 11) (kt_tab_get kx_R_readHead 5 rfl) rfl <|
  sd_get (pc := 12) (k := 0) (ci := 2) kt_hc2 kt_hin2 (by decide) (kt_tab_get kx_R_readHead 6 rfl) (kg_R_readHead_in _ (List.mem_of_getElem? (i := 7) rfl)) <|
  sd_getN (pc := 15) (k := 2) (ci := 0) kt_hc0 kt_hin0 (by decide) (kt_tab_get kx_R_readHead 7 rfl) (List.mem_of_getElem? (i := 1) rfl) <|
  sd_icmp_lt (pc := 18) (tgt := 23) (kt_tab_get kx_R_readHead 8 rfl) rfl kz_R_readHead_23 (sd_drop (k := 0) kz_R_readHead_21)
noncomputable def kd_R_readHead_0 : kt_D := ki_aload 0 <| ki_get kt_shC 2 4 <| ki_if_lt (ki_drop 0 kd_R_readHead_21) kd_R_readHead_7
theorem kz_R_readHead_0 : kt_Snd l kt_shC kb_R_readHead 1 RX2 (some .boolean) 1 0 0 false false 0 kd_R_readHead_0 :=
  sd_aload_n (pc := 0) (kt_tab_get kx_R_readHead 0 rfl) rfl <|
  sd_get (pc := 1) (k := 4) (ci := 2) kt_hc2 kt_hin2 (by decide) (kt_tab_get kx_R_readHead 1 rfl) (kg_R_readHead_in _ (List.mem_of_getElem? (i := 8) rfl)) <|
  sd_if_lt (pc := 4) (tgt := 21) (kt_tab_get kx_R_readHead 2 rfl) rfl (sd_drop (k := 0) kz_R_readHead_21) kz_R_readHead_7
noncomputable def kf_R_readHead : kt_F := kt_run 1 kd_R_readHead_0
theorem km_R_readHead : kt_M l kt_shC ky_R_readHead kb_R_readHead 1 (some .boolean) 1 false kf_R_readHead := kt_method (by decide) rfl kz_R_readHead_0
noncomputable def kd_R_passBytes_93 : kt_D := ki_push (.int 1) <| ki_zret
theorem kz_R_passBytes_93 : kt_Snd l kt_shC kb_R_passBytes 3 RX2 (some .boolean) 0 0 0 false false 93 kd_R_passBytes_93 :=
  sd_iconst (pc := 93) (kt_tab_get kx_R_passBytes 49 rfl) kc_i_1 <|
  sd_zret (pc := 94) rfl (by decide) (kt_tab_get kx_R_passBytes 50 rfl)
noncomputable def kd_R_passBytes_85 : kt_D := ki_push (.int 0) <| ki_zret
theorem kz_R_passBytes_85 : kt_Snd l kt_shC kb_R_passBytes 3 RX2 (some .boolean) 0 0 0 false false 85 kd_R_passBytes_85 :=
  sd_iconst (pc := 85) (kt_tab_get kx_R_passBytes 45 rfl) kc_i_0 <|
  sd_zret (pc := 86) rfl (by decide) (kt_tab_get kx_R_passBytes 46 rfl)
noncomputable def kd_R_passBytes_87 (kh_41 : kt_D) : kt_D := ki_iinc 2 1 <| kh_41
theorem kz_R_passBytes_87 {kh_41 : kt_D} (zh_41 : kt_Snd l kt_shC kb_R_passBytes 3 RX2 (some .boolean) 0 0 0 false false 41 kh_41) : kt_Snd l kt_shC kb_R_passBytes 3 RX2 (some .boolean) 0 0 0 false false 87 (kd_R_passBytes_87 kh_41) :=
  sd_iinc (pc := 87) (kt_tab_get kx_R_passBytes 47 rfl) kc_i_1 (by decide) <|
  sd_goto (pc := 90) (tgt := 41) (kt_tab_get kx_R_passBytes 48 rfl) rfl zh_41
noncomputable def kd_R_passBytes_71 (kh_41 : kt_D) : kt_D := ki_aload 0 <| ki_get kt_shC 2 0 <| ki_get kt_shC 0 0 <| ki_iload 2 <| ki_iald kt_shC <| ki_push (.int 126) <| ki_icmp_le (kd_R_passBytes_87 kh_41) (ki_drop 2 (ki_drop 0 kd_R_passBytes_85))
theorem kz_R_passBytes_71 {kh_41 : kt_D} (zh_41 : kt_Snd l kt_shC kb_R_passBytes 3 RX2 (some .boolean) 0 0 0 false false 41 kh_41) : kt_Snd l kt_shC kb_R_passBytes 3 RX2 (some .boolean) 0 0 0 false false 71 (kd_R_passBytes_71 kh_41) :=
  sd_aload_n (pc := 71) (kt_tab_get kx_R_passBytes 38 rfl) rfl <|
  sd_get (pc := 72) (k := 0) (ci := 2) kt_hc2 kt_hin2 (by decide) (kt_tab_get kx_R_passBytes 39 rfl) (kg_R_passBytes_in _ (List.mem_of_getElem? (i := 4) rfl)) <|
  sd_getN (pc := 75) (k := 0) (ci := 0) kt_hc0 kt_hin0 (by decide) (kt_tab_get kx_R_passBytes 40 rfl) (List.mem_of_getElem? (i := 0) rfl) <|
  sd_iload_n (pc := 78) (kt_tab_get kx_R_passBytes 41 rfl) rfl <|
  sd_iald (pc := 79) (kt_tab_get kx_R_passBytes 42 rfl) <|
  sd_bipush (pc := 80) (kt_tab_get kx_R_passBytes 43 rfl) kc_b_126 <|
  sd_icmp_le (pc := 82) (tgt := 87) (kt_tab_get kx_R_passBytes 44 rfl) rfl (kz_R_passBytes_87 zh_41) (sd_drop (k := 2) (sd_drop (k := 0) kz_R_passBytes_85))
noncomputable def kd_R_passBytes_57 (kh_41 : kt_D) : kt_D := ki_aload 0 <| ki_get kt_shC 2 0 <| ki_get kt_shC 0 0 <| ki_iload 2 <| ki_iald kt_shC <| ki_push (.int 32) <| ki_icmp_lt (ki_drop 2 (ki_drop 0 kd_R_passBytes_85)) (kd_R_passBytes_71 kh_41)
theorem kz_R_passBytes_57 {kh_41 : kt_D} (zh_41 : kt_Snd l kt_shC kb_R_passBytes 3 RX2 (some .boolean) 0 0 0 false false 41 kh_41) : kt_Snd l kt_shC kb_R_passBytes 3 RX2 (some .boolean) 0 0 0 false false 57 (kd_R_passBytes_57 kh_41) :=
  sd_aload_n (pc := 57) (kt_tab_get kx_R_passBytes 31 rfl) rfl <|
  sd_get (pc := 58) (k := 0) (ci := 2) kt_hc2 kt_hin2 (by decide) (kt_tab_get kx_R_passBytes 32 rfl) (kg_R_passBytes_in _ (List.mem_of_getElem? (i := 4) rfl)) <|
  sd_getN (pc := 61) (k := 0) (ci := 0) kt_hc0 kt_hin0 (by decide) (kt_tab_get kx_R_passBytes 33 rfl) (List.mem_of_getElem? (i := 0) rfl) <|
  sd_iload_n (pc := 64) (kt_tab_get kx_R_passBytes 34 rfl) rfl <|
  sd_iald (pc := 65) (kt_tab_get kx_R_passBytes 35 rfl) <|
  sd_bipush (pc := 66) (kt_tab_get kx_R_passBytes 36 rfl) kc_b_32 <|
  sd_icmp_lt (pc := 68) (tgt := 85) (kt_tab_get kx_R_passBytes 37 rfl) rfl (sd_drop (k := 2) (sd_drop (k := 0) kz_R_passBytes_85)) (kz_R_passBytes_71 zh_41)
noncomputable def kd_R_passBytes_49 (kh_41 : kt_D) : kt_D := ki_aload 0 <| ki_get kt_shC 2 5 <| ki_push (.int 3) <| ki_icmp_ne (ki_drop 2 (ki_drop 0 kd_R_passBytes_93)) (kd_R_passBytes_57 kh_41)
theorem kz_R_passBytes_49 {kh_41 : kt_D} (zh_41 : kt_Snd l kt_shC kb_R_passBytes 3 RX2 (some .boolean) 0 0 0 false false 41 kh_41) : kt_Snd l kt_shC kb_R_passBytes 3 RX2 (some .boolean) 0 0 0 false false 49 (kd_R_passBytes_49 kh_41) :=
  sd_aload_n (pc := 49) (kt_tab_get kx_R_passBytes 27 rfl) rfl <|
  sd_get (pc := 50) (k := 5) (ci := 2) kt_hc2 kt_hin2 (by decide) (kt_tab_get kx_R_passBytes 28 rfl) (kg_R_passBytes_in _ (List.mem_of_getElem? (i := 5) rfl)) <|
  sd_iconst (pc := 53) (kt_tab_get kx_R_passBytes 29 rfl) kc_i_3 <|
  sd_icmp_ne (pc := 54) (tgt := 93) (kt_tab_get kx_R_passBytes 30 rfl) rfl (sd_drop (k := 2) (sd_drop (k := 0) kz_R_passBytes_93)) (kz_R_passBytes_57 zh_41)
noncomputable def kd_R_passBytes_41b (kh_41 : kt_D) : kt_D := ki_iload 2 <| ki_aload 0 <| ki_get kt_shC 2 4 <| ki_icmp_ge (ki_drop 2 (ki_drop 0 kd_R_passBytes_93)) (kd_R_passBytes_49 kh_41)
theorem kz_R_passBytes_41b {kh_41 : kt_D} (zh_41 : kt_Snd l kt_shC kb_R_passBytes 3 RX2 (some .boolean) 0 0 0 false false 41 kh_41) : kt_Snd l kt_shC kb_R_passBytes 3 RX2 (some .boolean) 0 0 0 false false 41 (kd_R_passBytes_41b kh_41) :=
  sd_iload_n (pc := 41) (kt_tab_get kx_R_passBytes 23 rfl) rfl <|
  sd_aload_n (pc := 42) (kt_tab_get kx_R_passBytes 24 rfl) rfl <|
  sd_get (pc := 43) (k := 4) (ci := 2) kt_hc2 kt_hin2 (by decide) (kt_tab_get kx_R_passBytes 25 rfl) (kg_R_passBytes_in _ (List.mem_of_getElem? (i := 6) rfl)) <|
  sd_icmp_ge (pc := 46) (tgt := 93) (kt_tab_get kx_R_passBytes 26 rfl) rfl (sd_drop (k := 2) (sd_drop (k := 0) kz_R_passBytes_93)) (kz_R_passBytes_49 zh_41)
noncomputable def kd_R_passBytes_41 (n : Nat) : kt_D := Nat.rec (fun _ _ _ => none) (fun _ ih => kd_R_passBytes_41b ih) n
theorem kz_R_passBytes_41 (n : Nat) : kt_Snd l kt_shC kb_R_passBytes 3 RX2 (some .boolean) 0 0 0 false false 41 (kd_R_passBytes_41 n) := by
  induction n with
  | zero => exact sd_fail
  | succ n ih => exact kz_R_passBytes_41b ih
noncomputable def kd_R_passBytes_21 : kt_D := ki_aload 0 <| ki_get kt_shC 2 4 <| ki_istore 1 <| ki_aload 0 <| ki_dup <| ki_get kt_shC 2 4 <| ki_aload 0 <| ki_get kt_shC 2 6 <| ki_iadd <| ki_put kt_shC 2 4 0 <| ki_iload 1 <| ki_istore 2 <| (ki_drop 1 (kd_R_passBytes_41 100))
theorem kz_R_passBytes_21 : kt_Snd l kt_shC kb_R_passBytes 3 RX2 (some .boolean) 0 0 0 false false 21 kd_R_passBytes_21 :=
  sd_aload_n (pc := 21) (kt_tab_get kx_R_passBytes 11 rfl) rfl <|
  sd_get (pc := 22) (k := 4) (ci := 2) kt_hc2 kt_hin2 (by decide) (kt_tab_get kx_R_passBytes 12 rfl) (kg_R_passBytes_in _ (List.mem_of_getElem? (i := 6) rfl)) <|
  sd_istore_n (pc := 25) (kt_tab_get kx_R_passBytes 13 rfl) rfl (by decide) <|
  sd_aload_n (pc := 26) (kt_tab_get kx_R_passBytes 14 rfl) rfl <|
  sd_dup (pc := 27) (kt_tab_get kx_R_passBytes 15 rfl) <|
  sd_get (pc := 28) (k := 4) (ci := 2) kt_hc2 kt_hin2 (by decide) (kt_tab_get kx_R_passBytes 16 rfl) (kg_R_passBytes_in _ (List.mem_of_getElem? (i := 6) rfl)) <|
  sd_aload_n (pc := 31) (kt_tab_get kx_R_passBytes 17 rfl) rfl <|
  sd_get (pc := 32) (k := 6) (ci := 2) kt_hc2 kt_hin2 (by decide) (kt_tab_get kx_R_passBytes 18 rfl) (kg_R_passBytes_in _ (List.mem_of_getElem? (i := 7) rfl)) <|
  sd_iadd (pc := 35) (kt_tab_get kx_R_passBytes 19 rfl) <|
  sd_put (pc := 36) (k := 4) (ci := 2) kt_hc2 kt_hin2 tyX2_ok nmX2 (by decide) rfl rfl (Or.inl ⟨rfl, rfl⟩) (kt_tab_get kx_R_passBytes 20 rfl) (kg_R_passBytes_in _ (List.mem_of_getElem? (i := 6) rfl)) <|
  sd_iload_n (pc := 39) (kt_tab_get kx_R_passBytes 21 rfl) rfl <|
  sd_istore_n (pc := 40) (kt_tab_get kx_R_passBytes 22 rfl) rfl (by decide) <|
  (sd_drop (k := 1) (kz_R_passBytes_41 100))
noncomputable def kd_R_passBytes_19 : kt_D := ki_push (.int 0) <| ki_zret
theorem kz_R_passBytes_19 : kt_Snd l kt_shC kb_R_passBytes 3 RX2 (some .boolean) 0 0 0 false false 19 kd_R_passBytes_19 :=
  sd_iconst (pc := 19) (kt_tab_get kx_R_passBytes 9 rfl) kc_i_0 <|
  sd_zret (pc := 20) rfl (by decide) (kt_tab_get kx_R_passBytes 10 rfl)
noncomputable def kd_R_passBytes_0 : kt_D := ki_aload 0 <| ki_get kt_shC 2 6 <| ki_aload 0 <| ki_get kt_shC 2 0 <| ki_get kt_shC 0 2 <| ki_aload 0 <| ki_get kt_shC 2 4 <| ki_isub <| ki_icmp_le kd_R_passBytes_21 (ki_drop 0 kd_R_passBytes_19)
theorem kz_R_passBytes_0 : kt_Snd l kt_shC kb_R_passBytes 3 RX2 (some .boolean) 0 0 0 false false 0 kd_R_passBytes_0 :=
  sd_aload_n (pc := 0) (kt_tab_get kx_R_passBytes 0 rfl) rfl <|
  sd_get (pc := 1) (k := 6) (ci := 2) kt_hc2 kt_hin2 (by decide) (kt_tab_get kx_R_passBytes 1 rfl) (kg_R_passBytes_in _ (List.mem_of_getElem? (i := 7) rfl)) <|
  sd_aload_n (pc := 4) (kt_tab_get kx_R_passBytes 2 rfl) rfl <|
  sd_get (pc := 5) (k := 0) (ci := 2) kt_hc2 kt_hin2 (by decide) (kt_tab_get kx_R_passBytes 3 rfl) (kg_R_passBytes_in _ (List.mem_of_getElem? (i := 4) rfl)) <|
  sd_getN (pc := 8) (k := 2) (ci := 0) kt_hc0 kt_hin0 (by decide) (kt_tab_get kx_R_passBytes 4 rfl) (List.mem_of_getElem? (i := 1) rfl) <|
  sd_aload_n (pc := 11) (kt_tab_get kx_R_passBytes 5 rfl) rfl <|
  sd_get (pc := 12) (k := 4) (ci := 2) kt_hc2 kt_hin2 (by decide) (kt_tab_get kx_R_passBytes 6 rfl) (kg_R_passBytes_in _ (List.mem_of_getElem? (i := 6) rfl)) <|
  sd_isub (pc := 15) (kt_tab_get kx_R_passBytes 7 rfl) <|
  sd_icmp_le (pc := 16) (tgt := 21) (kt_tab_get kx_R_passBytes 8 rfl) rfl kz_R_passBytes_21 (sd_drop (k := 0) kz_R_passBytes_19)
noncomputable def kf_R_passBytes : kt_F := kt_run 3 kd_R_passBytes_0
theorem km_R_passBytes : kt_M l kt_shC ky_R_passBytes kb_R_passBytes 3 (some .boolean) 0 false kf_R_passBytes := kt_method (by decide) rfl kz_R_passBytes_0
noncomputable def kd_R_readList_68 (FI : kt_F) : kt_D := ki_aload 0 <| ki_iload 4 <| ki_put kt_shC 2 6 0 <| ki_iload 3 <| ki_iret
theorem kz_R_readList_68 {kl : Nat} {FI : kt_F} (hI : kt_M l kt_shC ky_R_readItem kb_R_readItem 2 (some .int) (kl + 1) false FI) : kt_Snd l kt_shC kb_R_readList 7 RX2 (some .int) (kl + 2) 0 0 false false 68 (kd_R_readList_68 FI) :=
  sd_aload_n (pc := 68) (kt_tab_get kx_R_readList 36 rfl) rfl <|
  sd_iload (pc := 69) (kt_tab_get kx_R_readList 37 rfl) <|
  sd_put (pc := 71) (k := 6) (ci := 2) kt_hc2 kt_hin2 tyX2_ok nmX2 (by decide) rfl rfl (Or.inl ⟨rfl, rfl⟩) (kt_tab_get kx_R_readList 38 rfl) (kg_R_readList_in _ (List.mem_of_getElem? (i := 4) rfl)) <|
  sd_iload_n (pc := 74) (kt_tab_get kx_R_readList 39 rfl) rfl <|
  sd_iret (pc := 75) rfl (by decide) (kt_tab_get kx_R_readList 40 rfl)
noncomputable def kd_R_readList_62 (FI : kt_F) (kh_8 : kt_D) : kt_D := ki_iinc 5 1 <| kh_8
theorem kz_R_readList_62 {kl : Nat} {FI : kt_F} (hI : kt_M l kt_shC ky_R_readItem kb_R_readItem 2 (some .int) (kl + 1) false FI) {kh_8 : kt_D} (zh_8 : kt_Snd l kt_shC kb_R_readList 7 RX2 (some .int) (kl + 2) 0 0 false false 8 kh_8) : kt_Snd l kt_shC kb_R_readList 7 RX2 (some .int) (kl + 2) 0 0 false false 62 (kd_R_readList_62 FI kh_8) :=
  sd_iinc (pc := 62) (kt_tab_get kx_R_readList 34 rfl) kc_i_1 (by decide) <|
  sd_goto (pc := 65) (tgt := 8) (kt_tab_get kx_R_readList 35 rfl) rfl zh_8
noncomputable def kd_R_readList_51 (FI : kt_F) (kh_8 : kt_D) : kt_D := ki_iload 4 <| ki_push (.int 1) <| ki_aload 0 <| ki_get kt_shC 2 6 <| ki_ishl <| ki_ior <| ki_istore 4 <| (kd_R_readList_62 FI kh_8)
theorem kz_R_readList_51 {kl : Nat} {FI : kt_F} (hI : kt_M l kt_shC ky_R_readItem kb_R_readItem 2 (some .int) (kl + 1) false FI) {kh_8 : kt_D} (zh_8 : kt_Snd l kt_shC kb_R_readList 7 RX2 (some .int) (kl + 2) 0 0 false false 8 kh_8) : kt_Snd l kt_shC kb_R_readList 7 RX2 (some .int) (kl + 2) 0 0 false false 51 (kd_R_readList_51 FI kh_8) :=
  sd_iload (pc := 51) (kt_tab_get kx_R_readList 27 rfl) <|
  sd_iconst (pc := 53) (kt_tab_get kx_R_readList 28 rfl) kc_i_1 <|
  sd_aload_n (pc := 54) (kt_tab_get kx_R_readList 29 rfl) rfl <|
  sd_get (pc := 55) (k := 6) (ci := 2) kt_hc2 kt_hin2 (by decide) (kt_tab_get kx_R_readList 30 rfl) (kg_R_readList_in _ (List.mem_of_getElem? (i := 4) rfl)) <|
  sd_ishl (pc := 58) (kt_tab_get kx_R_readList 31 rfl) <|
  sd_ior (pc := 59) (kt_tab_get kx_R_readList 32 rfl) <|
  sd_istore (pc := 60) (kt_tab_get kx_R_readList 33 rfl) (by decide) <|
  (kz_R_readList_62 hI zh_8)
noncomputable def kd_R_readList_42 (FI : kt_F) (kh_8 : kt_D) : kt_D := ki_aload 0 <| ki_get kt_shC 2 6 <| ki_push (.int 6) <| ki_icmp_gt (kd_R_readList_62 FI kh_8) (kd_R_readList_51 FI kh_8)
theorem kz_R_readList_42 {kl : Nat} {FI : kt_F} (hI : kt_M l kt_shC ky_R_readItem kb_R_readItem 2 (some .int) (kl + 1) false FI) {kh_8 : kt_D} (zh_8 : kt_Snd l kt_shC kb_R_readList 7 RX2 (some .int) (kl + 2) 0 0 false false 8 kh_8) : kt_Snd l kt_shC kb_R_readList 7 RX2 (some .int) (kl + 2) 0 0 false false 42 (kd_R_readList_42 FI kh_8) :=
  sd_aload_n (pc := 42) (kt_tab_get kx_R_readList 23 rfl) rfl <|
  sd_get (pc := 43) (k := 6) (ci := 2) kt_hc2 kt_hin2 (by decide) (kt_tab_get kx_R_readList 24 rfl) (kg_R_readList_in _ (List.mem_of_getElem? (i := 4) rfl)) <|
  sd_bipush (pc := 46) (kt_tab_get kx_R_readList 25 rfl) kc_b_6 <|
  sd_icmp_gt (pc := 48) (tgt := 62) (kt_tab_get kx_R_readList 26 rfl) rfl (kz_R_readList_62 hI zh_8) (kz_R_readList_51 hI zh_8)
noncomputable def kd_R_readList_36 (FI : kt_F) (kh_8 : kt_D) : kt_D := ki_push (.int 8) <| ki_istore 3 <| (kd_R_readList_62 FI kh_8)
theorem kz_R_readList_36 {kl : Nat} {FI : kt_F} (hI : kt_M l kt_shC ky_R_readItem kb_R_readItem 2 (some .int) (kl + 1) false FI) {kh_8 : kt_D} (zh_8 : kt_Snd l kt_shC kb_R_readList 7 RX2 (some .int) (kl + 2) 0 0 false false 8 kh_8) : kt_Snd l kt_shC kb_R_readList 7 RX2 (some .int) (kl + 2) 0 0 false false 36 (kd_R_readList_36 FI kh_8) :=
  sd_bipush (pc := 36) (kt_tab_get kx_R_readList 20 rfl) kc_b_8 <|
  sd_istore_n (pc := 38) (kt_tab_get kx_R_readList 21 rfl) rfl (by decide) <|
  sd_goto (pc := 39) (tgt := 62) (kt_tab_get kx_R_readList 22 rfl) rfl (kz_R_readList_62 hI zh_8)
noncomputable def kd_R_readList_31 (FI : kt_F) (kh_8 : kt_D) : kt_D := ki_iload 6 <| ki_if_eq (ki_drop 6 (kd_R_readList_42 FI kh_8)) (ki_drop 6 (ki_drop 3 (kd_R_readList_36 FI kh_8)))
theorem kz_R_readList_31 {kl : Nat} {FI : kt_F} (hI : kt_M l kt_shC ky_R_readItem kb_R_readItem 2 (some .int) (kl + 1) false FI) {kh_8 : kt_D} (zh_8 : kt_Snd l kt_shC kb_R_readList 7 RX2 (some .int) (kl + 2) 0 0 false false 8 kh_8) : kt_Snd l kt_shC kb_R_readList 7 RX2 (some .int) (kl + 2) 0 0 false false 31 (kd_R_readList_31 FI kh_8) :=
  sd_iload (pc := 31) (kt_tab_get kx_R_readList 18 rfl) <|
  sd_if_eq (pc := 33) (tgt := 42) (kt_tab_get kx_R_readList 19 rfl) rfl (sd_drop (k := 6) (kz_R_readList_42 hI zh_8)) (sd_drop (k := 6) (sd_drop (k := 3) (kz_R_readList_36 hI zh_8)))
noncomputable def kd_R_readList_28 (FI : kt_F) : kt_D := ki_push (.int (-2)) <| ki_iret
theorem kz_R_readList_28 {kl : Nat} {FI : kt_F} (hI : kt_M l kt_shC ky_R_readItem kb_R_readItem 2 (some .int) (kl + 1) false FI) : kt_Snd l kt_shC kb_R_readList 7 RX2 (some .int) (kl + 2) 0 0 false false 28 (kd_R_readList_28 FI) :=
  sd_bipush (pc := 28) (kt_tab_get kx_R_readList 16 rfl) kc_b_m2 <|
  sd_iret (pc := 30) rfl (by decide) (kt_tab_get kx_R_readList 17 rfl)
noncomputable def kd_R_readList_14 (FI : kt_F) (kh_8 : kt_D) : kt_D := ki_aload 0 <| ki_iload 2 <| ki_callV kt_shC 2 1 FI <| ki_istore 6 <| ki_iload 6 <| ki_push (.int (-2)) <| ki_icmp_ne (kd_R_readList_31 FI kh_8) (ki_drop 6 (ki_drop 5 (ki_drop 4 (ki_drop 3 (ki_drop 2 (ki_drop 1 (ki_drop 0 (kd_R_readList_28 FI))))))))
theorem kz_R_readList_14 {kl : Nat} {FI : kt_F} (hI : kt_M l kt_shC ky_R_readItem kb_R_readItem 2 (some .int) (kl + 1) false FI) {kh_8 : kt_D} (zh_8 : kt_Snd l kt_shC kb_R_readList 7 RX2 (some .int) (kl + 2) 0 0 false false 8 kh_8) : kt_Snd l kt_shC kb_R_readList 7 RX2 (some .int) (kl + 2) 0 0 false false 14 (kd_R_readList_14 FI kh_8) :=
  sd_aload_n (pc := 14) (kt_tab_get kx_R_readList 9 rfl) rfl <|
  sd_iload_n (pc := 15) (kt_tab_get kx_R_readList 10 rfl) rfl <|
  sd_callV (pc := 16) hI (by decide) kv_R_readItem (ci := 2) kt_hc2 (by omega) (kt_tab_get kx_R_readList 11 rfl) (kg_R_readList_in _ (List.mem_of_getElem? (i := 5) rfl)) <|
  sd_istore (pc := 19) (kt_tab_get kx_R_readList 12 rfl) (by decide) <|
  sd_iload (pc := 21) (kt_tab_get kx_R_readList 13 rfl) <|
  sd_bipush (pc := 23) (kt_tab_get kx_R_readList 14 rfl) kc_b_m2 <|
  sd_icmp_ne (pc := 25) (tgt := 31) (kt_tab_get kx_R_readList 15 rfl) rfl (kz_R_readList_31 hI zh_8) (sd_drop (k := 6) (sd_drop (k := 5) (sd_drop (k := 4) (sd_drop (k := 3) (sd_drop (k := 2) (sd_drop (k := 1) (sd_drop (k := 0) (kz_R_readList_28 hI))))))))
noncomputable def kd_R_readList_8b (FI : kt_F) (kh_8 : kt_D) : kt_D := ki_iload 5 <| ki_iload 1 <| ki_icmp_ge (ki_drop 5 (ki_drop 2 (ki_drop 1 (kd_R_readList_68 FI)))) (kd_R_readList_14 FI kh_8)
theorem kz_R_readList_8b {kl : Nat} {FI : kt_F} (hI : kt_M l kt_shC ky_R_readItem kb_R_readItem 2 (some .int) (kl + 1) false FI) {kh_8 : kt_D} (zh_8 : kt_Snd l kt_shC kb_R_readList 7 RX2 (some .int) (kl + 2) 0 0 false false 8 kh_8) : kt_Snd l kt_shC kb_R_readList 7 RX2 (some .int) (kl + 2) 0 0 false false 8 (kd_R_readList_8b FI kh_8) :=
  sd_iload (pc := 8) (kt_tab_get kx_R_readList 6 rfl) <|
  sd_iload_n (pc := 10) (kt_tab_get kx_R_readList 7 rfl) rfl <|
  sd_icmp_ge (pc := 11) (tgt := 68) (kt_tab_get kx_R_readList 8 rfl) rfl (sd_drop (k := 5) (sd_drop (k := 2) (sd_drop (k := 1) (kz_R_readList_68 hI)))) (kz_R_readList_14 hI zh_8)
noncomputable def kd_R_readList_8 (FI : kt_F) (n : Nat) : kt_D := Nat.rec (fun _ _ _ => none) (fun _ ih => kd_R_readList_8b FI ih) n
theorem kz_R_readList_8 {kl : Nat} {FI : kt_F} (hI : kt_M l kt_shC ky_R_readItem kb_R_readItem 2 (some .int) (kl + 1) false FI) (n : Nat) : kt_Snd l kt_shC kb_R_readList 7 RX2 (some .int) (kl + 2) 0 0 false false 8 (kd_R_readList_8 FI n) := by
  induction n with
  | zero => exact sd_fail
  | succ n ih => exact kz_R_readList_8b hI ih
noncomputable def kd_R_readList_0 (FI : kt_F) : kt_D := ki_push (.int 4) <| ki_istore 3 <| ki_push (.int 0) <| ki_istore 4 <| ki_push (.int 0) <| ki_istore 5 <| (kd_R_readList_8 FI 100)
theorem kz_R_readList_0 {kl : Nat} {FI : kt_F} (hI : kt_M l kt_shC ky_R_readItem kb_R_readItem 2 (some .int) (kl + 1) false FI) : kt_Snd l kt_shC kb_R_readList 7 RX2 (some .int) (kl + 2) 0 0 false false 0 (kd_R_readList_0 FI) :=
  sd_iconst (pc := 0) (kt_tab_get kx_R_readList 0 rfl) kc_i_4 <|
  sd_istore_n (pc := 1) (kt_tab_get kx_R_readList 1 rfl) rfl (by decide) <|
  sd_iconst (pc := 2) (kt_tab_get kx_R_readList 2 rfl) kc_i_0 <|
  sd_istore (pc := 3) (kt_tab_get kx_R_readList 3 rfl) (by decide) <|
  sd_iconst (pc := 5) (kt_tab_get kx_R_readList 4 rfl) kc_i_0 <|
  sd_istore (pc := 6) (kt_tab_get kx_R_readList 5 rfl) (by decide) <|
  (kz_R_readList_8 hI 100)
noncomputable def kf_R_readList_of (FI : kt_F) : kt_F := kt_run 7 (kd_R_readList_0 FI)
theorem km_R_readList_of {kl : Nat} {FI : kt_F} (hI : kt_M l kt_shC ky_R_readItem kb_R_readItem 2 (some .int) (kl + 1) false FI) : kt_M l kt_shC ky_R_readList kb_R_readList 7 (some .int) (kl + 2) false (kf_R_readList_of FI) := kt_method (by decide) rfl (kz_R_readList_0 hI)
noncomputable def kd_R_readMap_103 (FI : kt_F) : kt_D := ki_push (.int 5) <| ki_iret
theorem kz_R_readMap_103 {kl : Nat} {FI : kt_F} (hI : kt_M l kt_shC ky_R_readItem kb_R_readItem 2 (some .int) (kl + 1) false FI) : kt_Snd l kt_shC kb_R_readMap 6 RX2 (some .int) (kl + 2) 0 0 false false 103 (kd_R_readMap_103 FI) :=
  sd_iconst (pc := 103) (kt_tab_get kx_R_readMap 56 rfl) kc_i_5 <|
  sd_iret (pc := 104) rfl (by decide) (kt_tab_get kx_R_readMap 57 rfl)
noncomputable def kd_R_readMap_33 (FI : kt_F) : kt_D := ki_push (.int (-2)) <| ki_iret
theorem kz_R_readMap_33 {kl : Nat} {FI : kt_F} (hI : kt_M l kt_shC ky_R_readItem kb_R_readItem 2 (some .int) (kl + 1) false FI) : kt_Snd l kt_shC kb_R_readMap 6 RX2 (some .int) (kl + 2) 0 0 false false 33 (kd_R_readMap_33 FI) :=
  sd_bipush (pc := 33) (kt_tab_get kx_R_readMap 17 rfl) kc_b_m2 <|
  sd_iret (pc := 35) rfl (by decide) (kt_tab_get kx_R_readMap 18 rfl)
noncomputable def kd_R_readMap_97 (FI : kt_F) (kh_5 : kt_D) : kt_D := ki_iinc 4 1 <| kh_5
theorem kz_R_readMap_97 {kl : Nat} {FI : kt_F} (hI : kt_M l kt_shC ky_R_readItem kb_R_readItem 2 (some .int) (kl + 1) false FI) {kh_5 : kt_D} (zh_5 : kt_Snd l kt_shC kb_R_readMap 6 RX2 (some .int) (kl + 2) 0 0 false false 5 kh_5) : kt_Snd l kt_shC kb_R_readMap 6 RX2 (some .int) (kl + 2) 0 0 false false 97 (kd_R_readMap_97 FI kh_5) :=
  sd_iinc (pc := 97) (kt_tab_get kx_R_readMap 54 rfl) kc_i_1 (by decide) <|
  sd_goto (pc := 100) (tgt := 5) (kt_tab_get kx_R_readMap 55 rfl) rfl zh_5
noncomputable def kd_R_readMap_69 (FI : kt_F) (kh_5 : kt_D) : kt_D := ki_aload 0 <| ki_get kt_shC 2 1 <| ki_iload 3 <| ki_iload 5 <| ki_iast kt_shC <| ki_aload 0 <| ki_get kt_shC 2 2 <| ki_iload 3 <| ki_aload 0 <| ki_get kt_shC 2 6 <| ki_iast kt_shC <| ki_aload 0 <| ki_get kt_shC 2 3 <| ki_iload 3 <| ki_aload 0 <| ki_get kt_shC 2 4 <| ki_iast kt_shC <| (ki_drop 5 (kd_R_readMap_97 FI kh_5))
theorem kz_R_readMap_69 {kl : Nat} {FI : kt_F} (hI : kt_M l kt_shC ky_R_readItem kb_R_readItem 2 (some .int) (kl + 1) false FI) {kh_5 : kt_D} (zh_5 : kt_Snd l kt_shC kb_R_readMap 6 RX2 (some .int) (kl + 2) 0 0 false false 5 kh_5) : kt_Snd l kt_shC kb_R_readMap 6 RX2 (some .int) (kl + 2) 0 0 false false 69 (kd_R_readMap_69 FI kh_5) :=
  sd_aload_n (pc := 69) (kt_tab_get kx_R_readMap 37 rfl) rfl <|
  sd_get (pc := 70) (k := 1) (ci := 2) kt_hc2 kt_hin2 (by decide) (kt_tab_get kx_R_readMap 38 rfl) (kg_R_readMap_in _ (List.mem_of_getElem? (i := 4) rfl)) <|
  sd_iload_n (pc := 73) (kt_tab_get kx_R_readMap 39 rfl) rfl <|
  sd_iload (pc := 74) (kt_tab_get kx_R_readMap 40 rfl) <|
  sd_iast (pc := 76) (kt_tab_get kx_R_readMap 41 rfl) <|
  sd_aload_n (pc := 77) (kt_tab_get kx_R_readMap 42 rfl) rfl <|
  sd_get (pc := 78) (k := 2) (ci := 2) kt_hc2 kt_hin2 (by decide) (kt_tab_get kx_R_readMap 43 rfl) (kg_R_readMap_in _ (List.mem_of_getElem? (i := 5) rfl)) <|
  sd_iload_n (pc := 81) (kt_tab_get kx_R_readMap 44 rfl) rfl <|
  sd_aload_n (pc := 82) (kt_tab_get kx_R_readMap 45 rfl) rfl <|
  sd_get (pc := 83) (k := 6) (ci := 2) kt_hc2 kt_hin2 (by decide) (kt_tab_get kx_R_readMap 46 rfl) (kg_R_readMap_in _ (List.mem_of_getElem? (i := 6) rfl)) <|
  sd_iast (pc := 86) (kt_tab_get kx_R_readMap 47 rfl) <|
  sd_aload_n (pc := 87) (kt_tab_get kx_R_readMap 48 rfl) rfl <|
  sd_get (pc := 88) (k := 3) (ci := 2) kt_hc2 kt_hin2 (by decide) (kt_tab_get kx_R_readMap 49 rfl) (kg_R_readMap_in _ (List.mem_of_getElem? (i := 7) rfl)) <|
  sd_iload_n (pc := 91) (kt_tab_get kx_R_readMap 50 rfl) rfl <|
  sd_aload_n (pc := 92) (kt_tab_get kx_R_readMap 51 rfl) rfl <|
  sd_get (pc := 93) (k := 4) (ci := 2) kt_hc2 kt_hin2 (by decide) (kt_tab_get kx_R_readMap 52 rfl) (kg_R_readMap_in _ (List.mem_of_getElem? (i := 8) rfl)) <|
  sd_iast (pc := 96) (kt_tab_get kx_R_readMap 53 rfl) <|
  (sd_drop (k := 5) (kz_R_readMap_97 hI zh_5))
noncomputable def kd_R_readMap_63 (FI : kt_F) (kh_5 : kt_D) : kt_D := ki_iload 3 <| ki_push (.int 8) <| ki_icmp_gt (ki_drop 5 (kd_R_readMap_97 FI kh_5)) (kd_R_readMap_69 FI kh_5)
theorem kz_R_readMap_63 {kl : Nat} {FI : kt_F} (hI : kt_M l kt_shC ky_R_readItem kb_R_readItem 2 (some .int) (kl + 1) false FI) {kh_5 : kt_D} (zh_5 : kt_Snd l kt_shC kb_R_readMap 6 RX2 (some .int) (kl + 2) 0 0 false false 5 kh_5) : kt_Snd l kt_shC kb_R_readMap 6 RX2 (some .int) (kl + 2) 0 0 false false 63 (kd_R_readMap_63 FI kh_5) :=
  sd_iload_n (pc := 63) (kt_tab_get kx_R_readMap 34 rfl) rfl <|
  sd_bipush (pc := 64) (kt_tab_get kx_R_readMap 35 rfl) kc_b_8 <|
  sd_icmp_gt (pc := 66) (tgt := 97) (kt_tab_get kx_R_readMap 36 rfl) rfl (sd_drop (k := 5) (kz_R_readMap_97 hI zh_5)) (kz_R_readMap_69 hI zh_5)
noncomputable def kd_R_readMap_58 (FI : kt_F) (kh_5 : kt_D) : kt_D := ki_iload 2 <| ki_push (.int 1) <| ki_icmp_ne (ki_drop 5 (kd_R_readMap_97 FI kh_5)) (kd_R_readMap_63 FI kh_5)
theorem kz_R_readMap_58 {kl : Nat} {FI : kt_F} (hI : kt_M l kt_shC ky_R_readItem kb_R_readItem 2 (some .int) (kl + 1) false FI) {kh_5 : kt_D} (zh_5 : kt_Snd l kt_shC kb_R_readMap 6 RX2 (some .int) (kl + 2) 0 0 false false 5 kh_5) : kt_Snd l kt_shC kb_R_readMap 6 RX2 (some .int) (kl + 2) 0 0 false false 58 (kd_R_readMap_58 FI kh_5) :=
  sd_iload_n (pc := 58) (kt_tab_get kx_R_readMap 31 rfl) rfl <|
  sd_iconst (pc := 59) (kt_tab_get kx_R_readMap 32 rfl) kc_i_1 <|
  sd_icmp_ne (pc := 60) (tgt := 97) (kt_tab_get kx_R_readMap 33 rfl) rfl (sd_drop (k := 5) (kz_R_readMap_97 hI zh_5)) (kz_R_readMap_63 hI zh_5)
noncomputable def kd_R_readMap_55 (FI : kt_F) : kt_D := ki_push (.int (-2)) <| ki_iret
theorem kz_R_readMap_55 {kl : Nat} {FI : kt_F} (hI : kt_M l kt_shC ky_R_readItem kb_R_readItem 2 (some .int) (kl + 1) false FI) : kt_Snd l kt_shC kb_R_readMap 6 RX2 (some .int) (kl + 2) 0 0 false false 55 (kd_R_readMap_55 FI) :=
  sd_bipush (pc := 55) (kt_tab_get kx_R_readMap 29 rfl) kc_b_m2 <|
  sd_iret (pc := 57) rfl (by decide) (kt_tab_get kx_R_readMap 30 rfl)
noncomputable def kd_R_readMap_36 (FI : kt_F) (kh_5 : kt_D) : kt_D := ki_aload 0 <| ki_get kt_shC 2 6 <| ki_istore 3 <| ki_aload 0 <| ki_iload 2 <| ki_callV kt_shC 2 1 FI <| ki_istore 5 <| ki_iload 5 <| ki_push (.int (-2)) <| ki_icmp_ne (kd_R_readMap_58 FI kh_5) (ki_drop 5 (ki_drop 4 (ki_drop 3 (ki_drop 2 (ki_drop 1 (ki_drop 0 (kd_R_readMap_55 FI)))))))
theorem kz_R_readMap_36 {kl : Nat} {FI : kt_F} (hI : kt_M l kt_shC ky_R_readItem kb_R_readItem 2 (some .int) (kl + 1) false FI) {kh_5 : kt_D} (zh_5 : kt_Snd l kt_shC kb_R_readMap 6 RX2 (some .int) (kl + 2) 0 0 false false 5 kh_5) : kt_Snd l kt_shC kb_R_readMap 6 RX2 (some .int) (kl + 2) 0 0 false false 36 (kd_R_readMap_36 FI kh_5) :=
  sd_aload_n (pc := 36) (kt_tab_get kx_R_readMap 19 rfl) rfl <|
  sd_get (pc := 37) (k := 6) (ci := 2) kt_hc2 kt_hin2 (by decide) (kt_tab_get kx_R_readMap 20 rfl) (kg_R_readMap_in _ (List.mem_of_getElem? (i := 6) rfl)) <|
  sd_istore_n (pc := 40) (kt_tab_get kx_R_readMap 21 rfl) rfl (by decide) <|
  sd_aload_n (pc := 41) (kt_tab_get kx_R_readMap 22 rfl) rfl <|
  sd_iload_n (pc := 42) (kt_tab_get kx_R_readMap 23 rfl) rfl <|
  sd_callV (pc := 43) hI (by decide) kv_R_readItem (ci := 2) kt_hc2 (by omega) (kt_tab_get kx_R_readMap 24 rfl) (kg_R_readMap_in _ (List.mem_of_getElem? (i := 9) rfl)) <|
  sd_istore (pc := 46) (kt_tab_get kx_R_readMap 25 rfl) (by decide) <|
  sd_iload (pc := 48) (kt_tab_get kx_R_readMap 26 rfl) <|
  sd_bipush (pc := 50) (kt_tab_get kx_R_readMap 27 rfl) kc_b_m2 <|
  sd_icmp_ne (pc := 52) (tgt := 58) (kt_tab_get kx_R_readMap 28 rfl) rfl (kz_R_readMap_58 hI zh_5) (sd_drop (k := 5) (sd_drop (k := 4) (sd_drop (k := 3) (sd_drop (k := 2) (sd_drop (k := 1) (sd_drop (k := 0) (kz_R_readMap_55 hI)))))))
noncomputable def kd_R_readMap_25 (FI : kt_F) (kh_5 : kt_D) : kt_D := ki_aload 0 <| ki_get kt_shC 2 6 <| ki_iload 3 <| ki_icmp_gt (ki_drop 3 (kd_R_readMap_36 FI kh_5)) (ki_drop 4 (ki_drop 3 (ki_drop 2 (ki_drop 1 (ki_drop 0 (kd_R_readMap_33 FI))))))
theorem kz_R_readMap_25 {kl : Nat} {FI : kt_F} (hI : kt_M l kt_shC ky_R_readItem kb_R_readItem 2 (some .int) (kl + 1) false FI) {kh_5 : kt_D} (zh_5 : kt_Snd l kt_shC kb_R_readMap 6 RX2 (some .int) (kl + 2) 0 0 false false 5 kh_5) : kt_Snd l kt_shC kb_R_readMap 6 RX2 (some .int) (kl + 2) 0 0 false false 25 (kd_R_readMap_25 FI kh_5) :=
  sd_aload_n (pc := 25) (kt_tab_get kx_R_readMap 13 rfl) rfl <|
  sd_get (pc := 26) (k := 6) (ci := 2) kt_hc2 kt_hin2 (by decide) (kt_tab_get kx_R_readMap 14 rfl) (kg_R_readMap_in _ (List.mem_of_getElem? (i := 6) rfl)) <|
  sd_iload_n (pc := 29) (kt_tab_get kx_R_readMap 15 rfl) rfl <|
  sd_icmp_gt (pc := 30) (tgt := 36) (kt_tab_get kx_R_readMap 16 rfl) rfl (sd_drop (k := 3) (kz_R_readMap_36 hI zh_5)) (sd_drop (k := 4) (sd_drop (k := 3) (sd_drop (k := 2) (sd_drop (k := 1) (sd_drop (k := 0) (kz_R_readMap_33 hI))))))
noncomputable def kd_R_readMap_18 (FI : kt_F) (kh_5 : kt_D) : kt_D := ki_aload 0 <| ki_get kt_shC 2 5 <| ki_if_ne (ki_drop 4 (ki_drop 3 (ki_drop 2 (ki_drop 1 (ki_drop 0 (kd_R_readMap_33 FI)))))) (kd_R_readMap_25 FI kh_5)
theorem kz_R_readMap_18 {kl : Nat} {FI : kt_F} (hI : kt_M l kt_shC ky_R_readItem kb_R_readItem 2 (some .int) (kl + 1) false FI) {kh_5 : kt_D} (zh_5 : kt_Snd l kt_shC kb_R_readMap 6 RX2 (some .int) (kl + 2) 0 0 false false 5 kh_5) : kt_Snd l kt_shC kb_R_readMap 6 RX2 (some .int) (kl + 2) 0 0 false false 18 (kd_R_readMap_18 FI kh_5) :=
  sd_aload_n (pc := 18) (kt_tab_get kx_R_readMap 10 rfl) rfl <|
  sd_get (pc := 19) (k := 5) (ci := 2) kt_hc2 kt_hin2 (by decide) (kt_tab_get kx_R_readMap 11 rfl) (kg_R_readMap_in _ (List.mem_of_getElem? (i := 10) rfl)) <|
  sd_if_ne (pc := 22) (tgt := 33) (kt_tab_get kx_R_readMap 12 rfl) rfl (sd_drop (k := 4) (sd_drop (k := 3) (sd_drop (k := 2) (sd_drop (k := 1) (sd_drop (k := 0) (kz_R_readMap_33 hI)))))) (kz_R_readMap_25 hI zh_5)
noncomputable def kd_R_readMap_11 (FI : kt_F) (kh_5 : kt_D) : kt_D := ki_aload 0 <| ki_callV kt_shC 2 0 kf_R_readHead <| ki_if_eq (ki_drop 4 (ki_drop 3 (ki_drop 2 (ki_drop 1 (ki_drop 0 (kd_R_readMap_33 FI)))))) (kd_R_readMap_18 FI kh_5)
theorem kz_R_readMap_11 {kl : Nat} {FI : kt_F} (hI : kt_M l kt_shC ky_R_readItem kb_R_readItem 2 (some .int) (kl + 1) false FI) {kh_5 : kt_D} (zh_5 : kt_Snd l kt_shC kb_R_readMap 6 RX2 (some .int) (kl + 2) 0 0 false false 5 kh_5) : kt_Snd l kt_shC kb_R_readMap 6 RX2 (some .int) (kl + 2) 0 0 false false 11 (kd_R_readMap_11 FI kh_5) :=
  sd_aload_n (pc := 11) (kt_tab_get kx_R_readMap 7 rfl) rfl <|
  sd_callV (pc := 12) km_R_readHead (by decide) kv_R_readHead (ci := 2) kt_hc2 (by omega) (kt_tab_get kx_R_readMap 8 rfl) (kg_R_readMap_in _ (List.mem_of_getElem? (i := 11) rfl)) <|
  sd_if_eq (pc := 15) (tgt := 33) (kt_tab_get kx_R_readMap 9 rfl) rfl (sd_drop (k := 4) (sd_drop (k := 3) (sd_drop (k := 2) (sd_drop (k := 1) (sd_drop (k := 0) (kz_R_readMap_33 hI)))))) (kz_R_readMap_18 hI zh_5)
noncomputable def kd_R_readMap_5b (FI : kt_F) (kh_5 : kt_D) : kt_D := ki_iload 4 <| ki_iload 1 <| ki_icmp_ge (ki_drop 4 (ki_drop 3 (ki_drop 2 (ki_drop 1 (ki_drop 0 (kd_R_readMap_103 FI)))))) (kd_R_readMap_11 FI kh_5)
theorem kz_R_readMap_5b {kl : Nat} {FI : kt_F} (hI : kt_M l kt_shC ky_R_readItem kb_R_readItem 2 (some .int) (kl + 1) false FI) {kh_5 : kt_D} (zh_5 : kt_Snd l kt_shC kb_R_readMap 6 RX2 (some .int) (kl + 2) 0 0 false false 5 kh_5) : kt_Snd l kt_shC kb_R_readMap 6 RX2 (some .int) (kl + 2) 0 0 false false 5 (kd_R_readMap_5b FI kh_5) :=
  sd_iload (pc := 5) (kt_tab_get kx_R_readMap 4 rfl) <|
  sd_iload_n (pc := 7) (kt_tab_get kx_R_readMap 5 rfl) rfl <|
  sd_icmp_ge (pc := 8) (tgt := 103) (kt_tab_get kx_R_readMap 6 rfl) rfl (sd_drop (k := 4) (sd_drop (k := 3) (sd_drop (k := 2) (sd_drop (k := 1) (sd_drop (k := 0) (kz_R_readMap_103 hI)))))) (kz_R_readMap_11 hI zh_5)
noncomputable def kd_R_readMap_5 (FI : kt_F) (n : Nat) : kt_D := Nat.rec (fun _ _ _ => none) (fun _ ih => kd_R_readMap_5b FI ih) n
theorem kz_R_readMap_5 {kl : Nat} {FI : kt_F} (hI : kt_M l kt_shC ky_R_readItem kb_R_readItem 2 (some .int) (kl + 1) false FI) (n : Nat) : kt_Snd l kt_shC kb_R_readMap 6 RX2 (some .int) (kl + 2) 0 0 false false 5 (kd_R_readMap_5 FI n) := by
  induction n with
  | zero => exact sd_fail
  | succ n ih => exact kz_R_readMap_5b hI ih
noncomputable def kd_R_readMap_0 (FI : kt_F) : kt_D := ki_push (.int (-1)) <| ki_istore 3 <| ki_push (.int 0) <| ki_istore 4 <| (kd_R_readMap_5 FI 100)
theorem kz_R_readMap_0 {kl : Nat} {FI : kt_F} (hI : kt_M l kt_shC ky_R_readItem kb_R_readItem 2 (some .int) (kl + 1) false FI) : kt_Snd l kt_shC kb_R_readMap 6 RX2 (some .int) (kl + 2) 0 0 false false 0 (kd_R_readMap_0 FI) :=
  sd_iconst (pc := 0) (kt_tab_get kx_R_readMap 0 rfl) kc_i_m1 <|
  sd_istore_n (pc := 1) (kt_tab_get kx_R_readMap 1 rfl) rfl (by decide) <|
  sd_iconst (pc := 2) (kt_tab_get kx_R_readMap 2 rfl) kc_i_0 <|
  sd_istore (pc := 3) (kt_tab_get kx_R_readMap 3 rfl) (by decide) <|
  (kz_R_readMap_5 hI 100)
noncomputable def kf_R_readMap_of (FI : kt_F) : kt_F := kt_run 6 (kd_R_readMap_0 FI)
theorem km_R_readMap_of {kl : Nat} {FI : kt_F} (hI : kt_M l kt_shC ky_R_readItem kb_R_readItem 2 (some .int) (kl + 1) false FI) : kt_M l kt_shC ky_R_readMap kb_R_readMap 6 (some .int) (kl + 2) false (kf_R_readMap_of FI) := kt_method (by decide) rfl (kz_R_readMap_0 hI)
noncomputable def kd_R_readItem_42 (FL : kt_F) (FM : kt_F) : kt_D := ki_iret
theorem kz_R_readItem_42 {kl : Nat} {FL : kt_F} {FM : kt_F} (hL : kt_M l kt_shC ky_R_readList kb_R_readList 7 (some .int) (kl + 2) false FL) (hM : kt_M l kt_shC ky_R_readMap kb_R_readMap 6 (some .int) (kl + 2) false FM) : kt_Snd l kt_shC kb_R_readItem 2 RX2 (some .int) (kl + 3) 0 0 false false 42 (kd_R_readItem_42 FL FM) :=
  sd_iret (pc := 42) rfl (by decide) (kt_tab_get kx_R_readItem 20 rfl)
noncomputable def kd_R_readItem_40 (FL : kt_F) (FM : kt_F) : kt_D := ki_push (.int (-2)) <| (kd_R_readItem_42 FL FM)
theorem kz_R_readItem_40 {kl : Nat} {FL : kt_F} {FM : kt_F} (hL : kt_M l kt_shC ky_R_readList kb_R_readList 7 (some .int) (kl + 2) false FL) (hM : kt_M l kt_shC ky_R_readMap kb_R_readMap 6 (some .int) (kl + 2) false FM) : kt_Snd l kt_shC kb_R_readItem 2 RX2 (some .int) (kl + 3) 0 0 false false 40 (kd_R_readItem_40 FL FM) :=
  sd_bipush (pc := 40) (kt_tab_get kx_R_readItem 19 rfl) kc_b_m2 <|
  (kz_R_readItem_42 hL hM)
noncomputable def kd_R_readItem_33 (FL : kt_F) (FM : kt_F) : kt_D := ki_aload 0 <| ki_get kt_shC 2 5 <| (ki_drop 0 (kd_R_readItem_42 FL FM))
theorem kz_R_readItem_33 {kl : Nat} {FL : kt_F} {FM : kt_F} (hL : kt_M l kt_shC ky_R_readList kb_R_readList 7 (some .int) (kl + 2) false FL) (hM : kt_M l kt_shC ky_R_readMap kb_R_readMap 6 (some .int) (kl + 2) false FM) : kt_Snd l kt_shC kb_R_readItem 2 RX2 (some .int) (kl + 3) 0 0 false false 33 (kd_R_readItem_33 FL FM) :=
  sd_aload_n (pc := 33) (kt_tab_get kx_R_readItem 16 rfl) rfl <|
  sd_get (pc := 34) (k := 5) (ci := 2) kt_hc2 kt_hin2 (by decide) (kt_tab_get kx_R_readItem 17 rfl) (kg_R_readItem_in _ (List.mem_of_getElem? (i := 4) rfl)) <|
  sd_goto (pc := 37) (tgt := 42) (kt_tab_get kx_R_readItem 18 rfl) rfl (sd_drop (k := 0) (kz_R_readItem_42 hL hM))
noncomputable def kd_R_readItem_26 (FL : kt_F) (FM : kt_F) : kt_D := ki_aload 0 <| ki_callV kt_shC 2 0 kf_R_passBytes <| ki_if_eq (ki_drop 0 (kd_R_readItem_40 FL FM)) (kd_R_readItem_33 FL FM)
theorem kz_R_readItem_26 {kl : Nat} {FL : kt_F} {FM : kt_F} (hL : kt_M l kt_shC ky_R_readList kb_R_readList 7 (some .int) (kl + 2) false FL) (hM : kt_M l kt_shC ky_R_readMap kb_R_readMap 6 (some .int) (kl + 2) false FM) : kt_Snd l kt_shC kb_R_readItem 2 RX2 (some .int) (kl + 3) 0 0 false false 26 (kd_R_readItem_26 FL FM) :=
  sd_aload_n (pc := 26) (kt_tab_get kx_R_readItem 13 rfl) rfl <|
  sd_callV (pc := 27) km_R_passBytes (by decide) kv_R_passBytes (ci := 2) kt_hc2 (by omega) (kt_tab_get kx_R_readItem 14 rfl) (kg_R_readItem_in _ (List.mem_of_getElem? (i := 5) rfl)) <|
  sd_if_eq (pc := 30) (tgt := 40) (kt_tab_get kx_R_readItem 15 rfl) rfl (sd_drop (k := 0) (kz_R_readItem_40 hL hM)) (kz_R_readItem_33 hL hM)
noncomputable def kd_R_readItem_105 (FL : kt_F) (FM : kt_F) : kt_D := ki_iret
theorem kz_R_readItem_105 {kl : Nat} {FL : kt_F} {FM : kt_F} (hL : kt_M l kt_shC ky_R_readList kb_R_readList 7 (some .int) (kl + 2) false FL) (hM : kt_M l kt_shC ky_R_readMap kb_R_readMap 6 (some .int) (kl + 2) false FM) : kt_Snd l kt_shC kb_R_readItem 2 RX2 (some .int) (kl + 3) 0 0 false false 105 (kd_R_readItem_105 FL FM) :=
  sd_iret (pc := 105) rfl (by decide) (kt_tab_get kx_R_readItem 56 rfl)
noncomputable def kd_R_readItem_94 (FL : kt_F) (FM : kt_F) : kt_D := ki_aload 0 <| ki_aload 0 <| ki_get kt_shC 2 6 <| ki_iload 1 <| ki_push (.int 1) <| ki_iadd <| ki_callV kt_shC 2 2 FM <| (ki_drop 1 (ki_drop 0 (kd_R_readItem_105 FL FM)))
theorem kz_R_readItem_94 {kl : Nat} {FL : kt_F} {FM : kt_F} (hL : kt_M l kt_shC ky_R_readList kb_R_readList 7 (some .int) (kl + 2) false FL) (hM : kt_M l kt_shC ky_R_readMap kb_R_readMap 6 (some .int) (kl + 2) false FM) : kt_Snd l kt_shC kb_R_readItem 2 RX2 (some .int) (kl + 3) 0 0 false false 94 (kd_R_readItem_94 FL FM) :=
  sd_aload_n (pc := 94) (kt_tab_get kx_R_readItem 49 rfl) rfl <|
  sd_aload_n (pc := 95) (kt_tab_get kx_R_readItem 50 rfl) rfl <|
  sd_get (pc := 96) (k := 6) (ci := 2) kt_hc2 kt_hin2 (by decide) (kt_tab_get kx_R_readItem 51 rfl) (kg_R_readItem_in _ (List.mem_of_getElem? (i := 6) rfl)) <|
  sd_iload_n (pc := 99) (kt_tab_get kx_R_readItem 52 rfl) rfl <|
  sd_iconst (pc := 100) (kt_tab_get kx_R_readItem 53 rfl) kc_i_1 <|
  sd_iadd (pc := 101) (kt_tab_get kx_R_readItem 54 rfl) <|
  sd_callV (pc := 102) hM (by decide) kv_R_readMap (ci := 2) kt_hc2 (by omega) (kt_tab_get kx_R_readItem 55 rfl) (kg_R_readItem_in _ (List.mem_of_getElem? (i := 7) rfl)) <|
  (sd_drop (k := 1) (sd_drop (k := 0) (kz_R_readItem_105 hL hM)))
noncomputable def kd_R_readItem_80 (FL : kt_F) (FM : kt_F) : kt_D := ki_aload 0 <| ki_aload 0 <| ki_get kt_shC 2 6 <| ki_iload 1 <| ki_push (.int 1) <| ki_iadd <| ki_callV kt_shC 2 2 FL <| (ki_drop 1 (ki_drop 0 (kd_R_readItem_105 FL FM)))
theorem kz_R_readItem_80 {kl : Nat} {FL : kt_F} {FM : kt_F} (hL : kt_M l kt_shC ky_R_readList kb_R_readList 7 (some .int) (kl + 2) false FL) (hM : kt_M l kt_shC ky_R_readMap kb_R_readMap 6 (some .int) (kl + 2) false FM) : kt_Snd l kt_shC kb_R_readItem 2 RX2 (some .int) (kl + 3) 0 0 false false 80 (kd_R_readItem_80 FL FM) :=
  sd_aload_n (pc := 80) (kt_tab_get kx_R_readItem 41 rfl) rfl <|
  sd_aload_n (pc := 81) (kt_tab_get kx_R_readItem 42 rfl) rfl <|
  sd_get (pc := 82) (k := 6) (ci := 2) kt_hc2 kt_hin2 (by decide) (kt_tab_get kx_R_readItem 43 rfl) (kg_R_readItem_in _ (List.mem_of_getElem? (i := 6) rfl)) <|
  sd_iload_n (pc := 85) (kt_tab_get kx_R_readItem 44 rfl) rfl <|
  sd_iconst (pc := 86) (kt_tab_get kx_R_readItem 45 rfl) kc_i_1 <|
  sd_iadd (pc := 87) (kt_tab_get kx_R_readItem 46 rfl) <|
  sd_callV (pc := 88) hL (by decide) kv_R_readList (ci := 2) kt_hc2 (by omega) (kt_tab_get kx_R_readItem 47 rfl) (kg_R_readItem_in _ (List.mem_of_getElem? (i := 8) rfl)) <|
  sd_goto (pc := 91) (tgt := 105) (kt_tab_get kx_R_readItem 48 rfl) rfl (sd_drop (k := 1) (sd_drop (k := 0) (kz_R_readItem_105 hL hM)))
noncomputable def kd_R_readItem_72 (FL : kt_F) (FM : kt_F) : kt_D := ki_aload 0 <| ki_get kt_shC 2 5 <| ki_push (.int 4) <| ki_icmp_ne (kd_R_readItem_94 FL FM) (kd_R_readItem_80 FL FM)
theorem kz_R_readItem_72 {kl : Nat} {FL : kt_F} {FM : kt_F} (hL : kt_M l kt_shC ky_R_readList kb_R_readList 7 (some .int) (kl + 2) false FL) (hM : kt_M l kt_shC ky_R_readMap kb_R_readMap 6 (some .int) (kl + 2) false FM) : kt_Snd l kt_shC kb_R_readItem 2 RX2 (some .int) (kl + 3) 0 0 false false 72 (kd_R_readItem_72 FL FM) :=
  sd_aload_n (pc := 72) (kt_tab_get kx_R_readItem 37 rfl) rfl <|
  sd_get (pc := 73) (k := 5) (ci := 2) kt_hc2 kt_hin2 (by decide) (kt_tab_get kx_R_readItem 38 rfl) (kg_R_readItem_in _ (List.mem_of_getElem? (i := 4) rfl)) <|
  sd_iconst (pc := 76) (kt_tab_get kx_R_readItem 39 rfl) kc_i_4 <|
  sd_icmp_ne (pc := 77) (tgt := 94) (kt_tab_get kx_R_readItem 40 rfl) rfl (kz_R_readItem_94 hL hM) (kz_R_readItem_80 hL hM)
noncomputable def kd_R_readItem_69 (FL : kt_F) (FM : kt_F) : kt_D := ki_push (.int (-2)) <| ki_iret
theorem kz_R_readItem_69 {kl : Nat} {FL : kt_F} {FM : kt_F} (hL : kt_M l kt_shC ky_R_readList kb_R_readList 7 (some .int) (kl + 2) false FL) (hM : kt_M l kt_shC ky_R_readMap kb_R_readMap 6 (some .int) (kl + 2) false FM) : kt_Snd l kt_shC kb_R_readItem 2 RX2 (some .int) (kl + 3) 0 0 false false 69 (kd_R_readItem_69 FL FM) :=
  sd_bipush (pc := 69) (kt_tab_get kx_R_readItem 35 rfl) kc_b_m2 <|
  sd_iret (pc := 71) rfl (by decide) (kt_tab_get kx_R_readItem 36 rfl)
noncomputable def kd_R_readItem_64 (FL : kt_F) (FM : kt_F) : kt_D := ki_iload 1 <| ki_push (.int 3) <| ki_icmp_lt (kd_R_readItem_72 FL FM) (ki_drop 1 (ki_drop 0 (kd_R_readItem_69 FL FM)))
theorem kz_R_readItem_64 {kl : Nat} {FL : kt_F} {FM : kt_F} (hL : kt_M l kt_shC ky_R_readList kb_R_readList 7 (some .int) (kl + 2) false FL) (hM : kt_M l kt_shC ky_R_readMap kb_R_readMap 6 (some .int) (kl + 2) false FM) : kt_Snd l kt_shC kb_R_readItem 2 RX2 (some .int) (kl + 3) 0 0 false false 64 (kd_R_readItem_64 FL FM) :=
  sd_iload_n (pc := 64) (kt_tab_get kx_R_readItem 32 rfl) rfl <|
  sd_iconst (pc := 65) (kt_tab_get kx_R_readItem 33 rfl) kc_i_3 <|
  sd_icmp_lt (pc := 66) (tgt := 72) (kt_tab_get kx_R_readItem 34 rfl) rfl (kz_R_readItem_72 hL hM) (sd_drop (k := 1) (sd_drop (k := 0) (kz_R_readItem_69 hL hM)))
noncomputable def kd_R_readItem_59 (FL : kt_F) (FM : kt_F) : kt_D := ki_aload 0 <| ki_get kt_shC 2 5 <| ki_iret
theorem kz_R_readItem_59 {kl : Nat} {FL : kt_F} {FM : kt_F} (hL : kt_M l kt_shC ky_R_readList kb_R_readList 7 (some .int) (kl + 2) false FL) (hM : kt_M l kt_shC ky_R_readMap kb_R_readMap 6 (some .int) (kl + 2) false FM) : kt_Snd l kt_shC kb_R_readItem 2 RX2 (some .int) (kl + 3) 0 0 false false 59 (kd_R_readItem_59 FL FM) :=
  sd_aload_n (pc := 59) (kt_tab_get kx_R_readItem 29 rfl) rfl <|
  sd_get (pc := 60) (k := 5) (ci := 2) kt_hc2 kt_hin2 (by decide) (kt_tab_get kx_R_readItem 30 rfl) (kg_R_readItem_in _ (List.mem_of_getElem? (i := 4) rfl)) <|
  sd_iret (pc := 63) rfl (by decide) (kt_tab_get kx_R_readItem 31 rfl)
noncomputable def kd_R_readItem_51 (FL : kt_F) (FM : kt_F) : kt_D := ki_aload 0 <| ki_get kt_shC 2 5 <| ki_push (.int 5) <| ki_icmp_eq (kd_R_readItem_64 FL FM) (ki_drop 1 (kd_R_readItem_59 FL FM))
theorem kz_R_readItem_51 {kl : Nat} {FL : kt_F} {FM : kt_F} (hL : kt_M l kt_shC ky_R_readList kb_R_readList 7 (some .int) (kl + 2) false FL) (hM : kt_M l kt_shC ky_R_readMap kb_R_readMap 6 (some .int) (kl + 2) false FM) : kt_Snd l kt_shC kb_R_readItem 2 RX2 (some .int) (kl + 3) 0 0 false false 51 (kd_R_readItem_51 FL FM) :=
  sd_aload_n (pc := 51) (kt_tab_get kx_R_readItem 25 rfl) rfl <|
  sd_get (pc := 52) (k := 5) (ci := 2) kt_hc2 kt_hin2 (by decide) (kt_tab_get kx_R_readItem 26 rfl) (kg_R_readItem_in _ (List.mem_of_getElem? (i := 4) rfl)) <|
  sd_iconst (pc := 55) (kt_tab_get kx_R_readItem 27 rfl) kc_i_5 <|
  sd_icmp_eq (pc := 56) (tgt := 64) (kt_tab_get kx_R_readItem 28 rfl) rfl (kz_R_readItem_64 hL hM) (sd_drop (k := 1) (kz_R_readItem_59 hL hM))
noncomputable def kd_R_readItem_43 (FL : kt_F) (FM : kt_F) : kt_D := ki_aload 0 <| ki_get kt_shC 2 5 <| ki_push (.int 4) <| ki_icmp_eq (kd_R_readItem_64 FL FM) (kd_R_readItem_51 FL FM)
theorem kz_R_readItem_43 {kl : Nat} {FL : kt_F} {FM : kt_F} (hL : kt_M l kt_shC ky_R_readList kb_R_readList 7 (some .int) (kl + 2) false FL) (hM : kt_M l kt_shC ky_R_readMap kb_R_readMap 6 (some .int) (kl + 2) false FM) : kt_Snd l kt_shC kb_R_readItem 2 RX2 (some .int) (kl + 3) 0 0 false false 43 (kd_R_readItem_43 FL FM) :=
  sd_aload_n (pc := 43) (kt_tab_get kx_R_readItem 21 rfl) rfl <|
  sd_get (pc := 44) (k := 5) (ci := 2) kt_hc2 kt_hin2 (by decide) (kt_tab_get kx_R_readItem 22 rfl) (kg_R_readItem_in _ (List.mem_of_getElem? (i := 4) rfl)) <|
  sd_iconst (pc := 47) (kt_tab_get kx_R_readItem 23 rfl) kc_i_4 <|
  sd_icmp_eq (pc := 48) (tgt := 64) (kt_tab_get kx_R_readItem 24 rfl) rfl (kz_R_readItem_64 hL hM) (kz_R_readItem_51 hL hM)
noncomputable def kd_R_readItem_18 (FL : kt_F) (FM : kt_F) : kt_D := ki_aload 0 <| ki_get kt_shC 2 5 <| ki_push (.int 3) <| ki_icmp_ne (kd_R_readItem_43 FL FM) (ki_drop 1 (kd_R_readItem_26 FL FM))
theorem kz_R_readItem_18 {kl : Nat} {FL : kt_F} {FM : kt_F} (hL : kt_M l kt_shC ky_R_readList kb_R_readList 7 (some .int) (kl + 2) false FL) (hM : kt_M l kt_shC ky_R_readMap kb_R_readMap 6 (some .int) (kl + 2) false FM) : kt_Snd l kt_shC kb_R_readItem 2 RX2 (some .int) (kl + 3) 0 0 false false 18 (kd_R_readItem_18 FL FM) :=
  sd_aload_n (pc := 18) (kt_tab_get kx_R_readItem 9 rfl) rfl <|
  sd_get (pc := 19) (k := 5) (ci := 2) kt_hc2 kt_hin2 (by decide) (kt_tab_get kx_R_readItem 10 rfl) (kg_R_readItem_in _ (List.mem_of_getElem? (i := 4) rfl)) <|
  sd_iconst (pc := 22) (kt_tab_get kx_R_readItem 11 rfl) kc_i_3 <|
  sd_icmp_ne (pc := 23) (tgt := 43) (kt_tab_get kx_R_readItem 12 rfl) rfl (kz_R_readItem_43 hL hM) (sd_drop (k := 1) (kz_R_readItem_26 hL hM))
noncomputable def kd_R_readItem_10 (FL : kt_F) (FM : kt_F) : kt_D := ki_aload 0 <| ki_get kt_shC 2 5 <| ki_push (.int 2) <| ki_icmp_eq (ki_drop 1 (kd_R_readItem_26 FL FM)) (kd_R_readItem_18 FL FM)
theorem kz_R_readItem_10 {kl : Nat} {FL : kt_F} {FM : kt_F} (hL : kt_M l kt_shC ky_R_readList kb_R_readList 7 (some .int) (kl + 2) false FL) (hM : kt_M l kt_shC ky_R_readMap kb_R_readMap 6 (some .int) (kl + 2) false FM) : kt_Snd l kt_shC kb_R_readItem 2 RX2 (some .int) (kl + 3) 0 0 false false 10 (kd_R_readItem_10 FL FM) :=
  sd_aload_n (pc := 10) (kt_tab_get kx_R_readItem 5 rfl) rfl <|
  sd_get (pc := 11) (k := 5) (ci := 2) kt_hc2 kt_hin2 (by decide) (kt_tab_get kx_R_readItem 6 rfl) (kg_R_readItem_in _ (List.mem_of_getElem? (i := 4) rfl)) <|
  sd_iconst (pc := 14) (kt_tab_get kx_R_readItem 7 rfl) kc_i_2 <|
  sd_icmp_eq (pc := 15) (tgt := 26) (kt_tab_get kx_R_readItem 8 rfl) rfl (sd_drop (k := 1) (kz_R_readItem_26 hL hM)) (kz_R_readItem_18 hL hM)
noncomputable def kd_R_readItem_7 (FL : kt_F) (FM : kt_F) : kt_D := ki_push (.int (-2)) <| ki_iret
theorem kz_R_readItem_7 {kl : Nat} {FL : kt_F} {FM : kt_F} (hL : kt_M l kt_shC ky_R_readList kb_R_readList 7 (some .int) (kl + 2) false FL) (hM : kt_M l kt_shC ky_R_readMap kb_R_readMap 6 (some .int) (kl + 2) false FM) : kt_Snd l kt_shC kb_R_readItem 2 RX2 (some .int) (kl + 3) 0 0 false false 7 (kd_R_readItem_7 FL FM) :=
  sd_bipush (pc := 7) (kt_tab_get kx_R_readItem 3 rfl) kc_b_m2 <|
  sd_iret (pc := 9) rfl (by decide) (kt_tab_get kx_R_readItem 4 rfl)
noncomputable def kd_R_readItem_0 (FL : kt_F) (FM : kt_F) : kt_D := ki_aload 0 <| ki_callV kt_shC 2 0 kf_R_readHead <| ki_if_ne (kd_R_readItem_10 FL FM) (ki_drop 1 (ki_drop 0 (kd_R_readItem_7 FL FM)))
theorem kz_R_readItem_0 {kl : Nat} {FL : kt_F} {FM : kt_F} (hL : kt_M l kt_shC ky_R_readList kb_R_readList 7 (some .int) (kl + 2) false FL) (hM : kt_M l kt_shC ky_R_readMap kb_R_readMap 6 (some .int) (kl + 2) false FM) : kt_Snd l kt_shC kb_R_readItem 2 RX2 (some .int) (kl + 3) 0 0 false false 0 (kd_R_readItem_0 FL FM) :=
  sd_aload_n (pc := 0) (kt_tab_get kx_R_readItem 0 rfl) rfl <|
  sd_callV (pc := 1) km_R_readHead (by decide) kv_R_readHead (ci := 2) kt_hc2 (by omega) (kt_tab_get kx_R_readItem 1 rfl) (kg_R_readItem_in _ (List.mem_of_getElem? (i := 9) rfl)) <|
  sd_if_ne (pc := 4) (tgt := 10) (kt_tab_get kx_R_readItem 2 rfl) rfl (kz_R_readItem_10 hL hM) (sd_drop (k := 1) (sd_drop (k := 0) (kz_R_readItem_7 hL hM)))
noncomputable def kf_R_readItem_of (FL : kt_F) (FM : kt_F) : kt_F := kt_run 2 (kd_R_readItem_0 FL FM)
theorem km_R_readItem_of {kl : Nat} {FL : kt_F} {FM : kt_F} (hL : kt_M l kt_shC ky_R_readList kb_R_readList 7 (some .int) (kl + 2) false FL) (hM : kt_M l kt_shC ky_R_readMap kb_R_readMap 6 (some .int) (kl + 2) false FM) : kt_M l kt_shC ky_R_readItem kb_R_readItem 2 (some .int) (kl + 3) false (kf_R_readItem_of FL FM) := kt_method (by decide) rfl (kz_R_readItem_0 hL hM)
noncomputable def kf_R_readItem_n (n : Nat) : kt_F := Nat.rec (fun _ _ => none) (fun _ ih => kf_R_readItem_of (kf_R_readList_of ih) (kf_R_readMap_of ih)) n
theorem km_R_readItem_n (n : Nat) : kt_M l kt_shC ky_R_readItem kb_R_readItem 2 (some .int) (2 * n + 1) false (kf_R_readItem_n n) := by
  induction n with
  | zero => intro D cA as av σ σ' r sz h; cases h
  | succ n ih =>
    have h : 2 * (n + 1) + 1 = 2 * n + 3 := by omega
    rw [h]
    exact km_R_readItem_of (km_R_readList_of ih) (km_R_readMap_of ih)
noncomputable def kf_R_readItem : kt_F := kf_R_readItem_n 6
theorem km_R_readItem : kt_M l kt_shC ky_R_readItem kb_R_readItem 2 (some .int) 13 false kf_R_readItem := km_R_readItem_n 6
noncomputable def kd_R_parse_52 : kt_D := ki_zret
theorem kz_R_parse_52 : kt_Snd l kt_shC kb_R_parse 1 RX2 (some .boolean) 15 0 0 false false 52 kd_R_parse_52 :=
  sd_zret (pc := 52) rfl (by decide) (kt_tab_get kx_R_parse 26 rfl)
noncomputable def kd_R_parse_47 : kt_D := ki_push (.int 1) <| kd_R_parse_52
theorem kz_R_parse_47 : kt_Snd l kt_shC kb_R_parse 1 RX2 (some .boolean) 15 0 0 false false 47 kd_R_parse_47 :=
  sd_iconst (pc := 47) (kt_tab_get kx_R_parse 23 rfl) kc_i_1 <|
  sd_goto (pc := 48) (tgt := 52) (kt_tab_get kx_R_parse 24 rfl) rfl kz_R_parse_52
noncomputable def kd_R_parse_51 : kt_D := ki_push (.int 0) <| kd_R_parse_52
theorem kz_R_parse_51 : kt_Snd l kt_shC kb_R_parse 1 RX2 (some .boolean) 15 0 0 false false 51 kd_R_parse_51 :=
  sd_iconst (pc := 51) (kt_tab_get kx_R_parse 25 rfl) kc_i_0 <|
  kz_R_parse_52
noncomputable def kd_R_parse_33 : kt_D := ki_aload 0 <| ki_get kt_shC 2 4 <| ki_aload 0 <| ki_get kt_shC 2 0 <| ki_get kt_shC 0 2 <| ki_icmp_ne (ki_drop 0 kd_R_parse_51) (ki_drop 0 kd_R_parse_47)
theorem kz_R_parse_33 : kt_Snd l kt_shC kb_R_parse 1 RX2 (some .boolean) 15 0 0 false false 33 kd_R_parse_33 :=
  sd_aload_n (pc := 33) (kt_tab_get kx_R_parse 17 rfl) rfl <|
  sd_get (pc := 34) (k := 4) (ci := 2) kt_hc2 kt_hin2 (by decide) (kt_tab_get kx_R_parse 18 rfl) (kg_R_parse_in _ (List.mem_of_getElem? (i := 4) rfl)) <|
  sd_aload_n (pc := 37) (kt_tab_get kx_R_parse 19 rfl) rfl <|
  sd_get (pc := 38) (k := 0) (ci := 2) kt_hc2 kt_hin2 (by decide) (kt_tab_get kx_R_parse 20 rfl) (kg_R_parse_in _ (List.mem_of_getElem? (i := 5) rfl)) <|
  sd_getN (pc := 41) (k := 2) (ci := 0) kt_hc0 kt_hin0 (by decide) (kt_tab_get kx_R_parse 21 rfl) (List.mem_of_getElem? (i := 1) rfl) <|
  sd_icmp_ne (pc := 44) (tgt := 51) (kt_tab_get kx_R_parse 22 rfl) rfl (sd_drop (k := 0) kz_R_parse_51) (sd_drop (k := 0) kz_R_parse_47)
noncomputable def kd_R_parse_24 : kt_D := ki_aload 0 <| ki_push (.int 0) <| ki_callV kt_shC 2 1 kf_R_readItem <| ki_push (.int 5) <| ki_icmp_ne (ki_drop 0 kd_R_parse_51) kd_R_parse_33
theorem kz_R_parse_24 : kt_Snd l kt_shC kb_R_parse 1 RX2 (some .boolean) 15 0 0 false false 24 kd_R_parse_24 :=
  sd_aload_n (pc := 24) (kt_tab_get kx_R_parse 12 rfl) rfl <|
  sd_iconst (pc := 25) (kt_tab_get kx_R_parse 13 rfl) kc_i_0 <|
  sd_callV (pc := 26) km_R_readItem (by decide) kv_R_readItem (ci := 2) kt_hc2 (by decide) (kt_tab_get kx_R_parse 14 rfl) (kg_R_parse_in _ (List.mem_of_getElem? (i := 6) rfl)) <|
  sd_iconst (pc := 29) (kt_tab_get kx_R_parse 15 rfl) kc_i_5 <|
  sd_icmp_ne (pc := 30) (tgt := 51) (kt_tab_get kx_R_parse 16 rfl) rfl (sd_drop (k := 0) kz_R_parse_51) kz_R_parse_33
noncomputable def kd_R_parse_0 : kt_D := ki_aload 0 <| ki_get kt_shC 2 1 <| ki_push (.int (-1)) <| ki_callS 2 kf_A_fill <| ki_aload 0 <| ki_push (.int 1) <| ki_put kt_shC 2 4 0 <| ki_aload 0 <| ki_get kt_shC 2 0 <| ki_get kt_shC 0 2 <| ki_push (.int 1) <| ki_icmp_le (ki_drop 0 kd_R_parse_47) kd_R_parse_24
theorem kz_R_parse_0 : kt_Snd l kt_shC kb_R_parse 1 RX2 (some .boolean) 15 0 0 false false 0 kd_R_parse_0 :=
  sd_aload_n (pc := 0) (kt_tab_get kx_R_parse 0 rfl) rfl <|
  sd_get (pc := 1) (k := 1) (ci := 2) kt_hc2 kt_hin2 (by decide) (kt_tab_get kx_R_parse 1 rfl) (kg_R_parse_in _ (List.mem_of_getElem? (i := 7) rfl)) <|
  sd_iconst (pc := 4) (kt_tab_get kx_R_parse 2 rfl) kc_i_m1 <|
  sd_callS (pc := 5) km_A_fill (by decide) kv_A_fill (by decide) (kt_tab_get kx_R_parse 3 rfl) (kg_R_parse_in _ (List.mem_of_getElem? (i := 8) rfl)) <|
  sd_aload_n (pc := 8) (kt_tab_get kx_R_parse 4 rfl) rfl <|
  sd_iconst (pc := 9) (kt_tab_get kx_R_parse 5 rfl) kc_i_1 <|
  sd_put (pc := 10) (k := 4) (ci := 2) kt_hc2 kt_hin2 tyX2_ok nmX2 (by decide) rfl rfl (Or.inl ⟨rfl, rfl⟩) (kt_tab_get kx_R_parse 6 rfl) (kg_R_parse_in _ (List.mem_of_getElem? (i := 4) rfl)) <|
  sd_aload_n (pc := 13) (kt_tab_get kx_R_parse 7 rfl) rfl <|
  sd_get (pc := 14) (k := 0) (ci := 2) kt_hc2 kt_hin2 (by decide) (kt_tab_get kx_R_parse 8 rfl) (kg_R_parse_in _ (List.mem_of_getElem? (i := 5) rfl)) <|
  sd_getN (pc := 17) (k := 2) (ci := 0) kt_hc0 kt_hin0 (by decide) (kt_tab_get kx_R_parse 9 rfl) (List.mem_of_getElem? (i := 1) rfl) <|
  sd_iconst (pc := 20) (kt_tab_get kx_R_parse 10 rfl) kc_i_1 <|
  sd_icmp_le (pc := 21) (tgt := 47) (kt_tab_get kx_R_parse 11 rfl) rfl (sd_drop (k := 0) kz_R_parse_47) kz_R_parse_24
noncomputable def kf_R_parse : kt_F := kt_run 1 kd_R_parse_0
theorem km_R_parse : kt_M l kt_shC ky_R_parse kb_R_parse 1 (some .boolean) 15 false kf_R_parse := kt_method (by decide) rfl kz_R_parse_0
noncomputable def kd_R_has_25 : kt_D := ki_zret
theorem kz_R_has_25 : kt_Snd l kt_shC kb_R_has 2 RX2 (some .boolean) 0 0 0 true true 25 kd_R_has_25 :=
  sd_zret (pc := 25) rfl (by decide) (kt_tab_get kx_R_has 14 rfl)
noncomputable def kd_R_has_24 : kt_D := ki_push (.int 0) <| kd_R_has_25
theorem kz_R_has_24 : kt_Snd l kt_shC kb_R_has 2 RX2 (some .boolean) 0 0 0 true true 24 kd_R_has_24 :=
  sd_iconst (pc := 24) (kt_tab_get kx_R_has 13 rfl) kc_i_0 <|
  kz_R_has_25
noncomputable def kd_R_has_20 : kt_D := ki_push (.int 1) <| kd_R_has_25
theorem kz_R_has_20 : kt_Snd l kt_shC kb_R_has 2 RX2 (some .boolean) 0 0 0 true true 20 kd_R_has_20 :=
  sd_iconst (pc := 20) (kt_tab_get kx_R_has 11 rfl) kc_i_1 <|
  sd_goto (pc := 21) (tgt := 25) (kt_tab_get kx_R_has 12 rfl) rfl kz_R_has_25
noncomputable def kd_R_has_10 : kt_D := ki_aload 0 <| ki_get kt_shC 2 1 <| ki_iload 1 <| ki_iald kt_shC <| ki_push (.int (-1)) <| ki_icmp_eq (ki_drop 1 (ki_drop 0 kd_R_has_24)) (ki_drop 1 (ki_drop 0 kd_R_has_20))
theorem kz_R_has_10 : kt_Snd l kt_shC kb_R_has 2 RX2 (some .boolean) 0 0 0 true true 10 kd_R_has_10 :=
  sd_aload_n (pc := 10) (kt_tab_get kx_R_has 5 rfl) rfl <|
  sd_get (pc := 11) (k := 1) (ci := 2) kt_hc2 kt_hin2 (by decide) (kt_tab_get kx_R_has 6 rfl) (kg_R_has_in _ (List.mem_of_getElem? (i := 4) rfl)) <|
  sd_iload_n (pc := 14) (kt_tab_get kx_R_has 7 rfl) rfl <|
  sd_iald (pc := 15) (kt_tab_get kx_R_has 8 rfl) <|
  sd_iconst (pc := 16) (kt_tab_get kx_R_has 9 rfl) kc_i_m1 <|
  sd_icmp_eq (pc := 17) (tgt := 24) (kt_tab_get kx_R_has 10 rfl) rfl (sd_drop (k := 1) (sd_drop (k := 0) kz_R_has_24)) (sd_drop (k := 1) (sd_drop (k := 0) kz_R_has_20))
noncomputable def kd_R_has_4 : kt_D := ki_iload 1 <| ki_push (.int 8) <| ki_icmp_gt (ki_drop 1 (ki_drop 0 kd_R_has_24)) kd_R_has_10
theorem kz_R_has_4 : kt_Snd l kt_shC kb_R_has 2 RX2 (some .boolean) 0 0 0 true true 4 kd_R_has_4 :=
  sd_iload_n (pc := 4) (kt_tab_get kx_R_has 2 rfl) rfl <|
  sd_bipush (pc := 5) (kt_tab_get kx_R_has 3 rfl) kc_b_8 <|
  sd_icmp_gt (pc := 7) (tgt := 24) (kt_tab_get kx_R_has 4 rfl) rfl (sd_drop (k := 1) (sd_drop (k := 0) kz_R_has_24)) kz_R_has_10
noncomputable def kd_R_has_0 : kt_D := ki_iload 1 <| ki_if_lt (ki_drop 1 (ki_drop 0 kd_R_has_24)) kd_R_has_4
theorem kz_R_has_0 : kt_Snd l kt_shC kb_R_has 2 RX2 (some .boolean) 0 0 0 true true 0 kd_R_has_0 :=
  sd_iload_n (pc := 0) (kt_tab_get kx_R_has 0 rfl) rfl <|
  sd_if_lt (pc := 1) (tgt := 24) (kt_tab_get kx_R_has 1 rfl) rfl (sd_drop (k := 1) (sd_drop (k := 0) kz_R_has_24)) kz_R_has_4
noncomputable def kf_R_has : kt_F := kt_run 2 kd_R_has_0
theorem km_R_has : kt_M l kt_shC ky_R_has kb_R_has 2 (some .boolean) 0 true kf_R_has := kt_method (by decide) rfl kz_R_has_0
noncomputable def kd_R_check_88 : kt_D := ki_push (.int 0) <| ki_iret
theorem kz_R_check_88 : kt_Snd l kt_shC kb_R_check 7 RX2 (some .int) 1 0 0 true true 88 kd_R_check_88 :=
  sd_iconst (pc := 88) (kt_tab_get kx_R_check 52 rfl) kc_i_0 <|
  sd_iret (pc := 89) rfl (by decide) (kt_tab_get kx_R_check 53 rfl)
noncomputable def kd_R_check_82 (kh_58 : kt_D) : kt_D := ki_iinc 5 1 <| kh_58
theorem kz_R_check_82 {kh_58 : kt_D} (zh_58 : kt_Snd l kt_shC kb_R_check 7 RX2 (some .int) 1 0 0 true true 58 kh_58) : kt_Snd l kt_shC kb_R_check 7 RX2 (some .int) 1 0 0 true true 82 (kd_R_check_82 kh_58) :=
  sd_iinc (pc := 82) (kt_tab_get kx_R_check 50 rfl) kc_i_1 (by decide) <|
  sd_goto (pc := 85) (tgt := 58) (kt_tab_get kx_R_check 51 rfl) rfl zh_58
noncomputable def kd_R_check_80 : kt_D := ki_push (.int 4) <| ki_iret
theorem kz_R_check_80 : kt_Snd l kt_shC kb_R_check 7 RX2 (some .int) 1 0 0 true true 80 kd_R_check_80 :=
  sd_iconst (pc := 80) (kt_tab_get kx_R_check 48 rfl) kc_i_4 <|
  sd_iret (pc := 81) rfl (by decide) (kt_tab_get kx_R_check 49 rfl)
noncomputable def kd_R_check_65 (kh_58 : kt_D) : kt_D := ki_aload 3 <| ki_iload 5 <| ki_ialdX <| ki_istore 6 <| ki_aload 0 <| ki_iload 6 <| ki_callV kt_shC 2 1 kf_R_has <| ki_if_ne (ki_drop 6 (kd_R_check_82 kh_58)) (ki_drop 6 (ki_drop 5 (ki_drop 4 (ki_drop 3 (ki_drop 0 kd_R_check_80)))))
theorem kz_R_check_65 {kh_58 : kt_D} (zh_58 : kt_Snd l kt_shC kb_R_check 7 RX2 (some .int) 1 0 0 true true 58 kh_58) : kt_Snd l kt_shC kb_R_check 7 RX2 (some .int) 1 0 0 true true 65 (kd_R_check_65 kh_58) :=
  sd_aload_n (pc := 65) (kt_tab_get kx_R_check 40 rfl) rfl <|
  sd_iload (pc := 66) (kt_tab_get kx_R_check 41 rfl) <|
  sd_ialdX (pc := 68) (kt_tab_get kx_R_check 42 rfl) <|
  sd_istore (pc := 69) (kt_tab_get kx_R_check 43 rfl) (by decide) <|
  sd_aload_n (pc := 71) (kt_tab_get kx_R_check 44 rfl) rfl <|
  sd_iload (pc := 72) (kt_tab_get kx_R_check 45 rfl) <|
  sd_callV (pc := 74) km_R_has (by decide) kv_R_has (ci := 2) kt_hc2 (by decide) (kt_tab_get kx_R_check 46 rfl) (kg_R_check_in _ (List.mem_of_getElem? (i := 4) rfl)) <|
  sd_if_ne (pc := 77) (tgt := 82) (kt_tab_get kx_R_check 47 rfl) rfl (sd_drop (k := 6) (kz_R_check_82 zh_58)) (sd_drop (k := 6) (sd_drop (k := 5) (sd_drop (k := 4) (sd_drop (k := 3) (sd_drop (k := 0) kz_R_check_80)))))
noncomputable def kd_R_check_58b (kh_58 : kt_D) : kt_D := ki_iload 5 <| ki_iload 4 <| ki_icmp_ge (ki_drop 5 (ki_drop 4 (ki_drop 3 (ki_drop 0 kd_R_check_88)))) (kd_R_check_65 kh_58)
theorem kz_R_check_58b {kh_58 : kt_D} (zh_58 : kt_Snd l kt_shC kb_R_check 7 RX2 (some .int) 1 0 0 true true 58 kh_58) : kt_Snd l kt_shC kb_R_check 7 RX2 (some .int) 1 0 0 true true 58 (kd_R_check_58b kh_58) :=
  sd_iload (pc := 58) (kt_tab_get kx_R_check 37 rfl) <|
  sd_iload (pc := 60) (kt_tab_get kx_R_check 38 rfl) <|
  sd_icmp_ge (pc := 62) (tgt := 88) (kt_tab_get kx_R_check 39 rfl) rfl (sd_drop (k := 5) (sd_drop (k := 4) (sd_drop (k := 3) (sd_drop (k := 0) kz_R_check_88)))) (kz_R_check_65 zh_58)
noncomputable def kd_R_check_58 (n : Nat) : kt_D := Nat.rec (fun _ _ _ => none) (fun _ ih => kd_R_check_58b ih) n
theorem kz_R_check_58 (n : Nat) : kt_Snd l kt_shC kb_R_check 7 RX2 (some .int) 1 0 0 true true 58 (kd_R_check_58 n) := by
  induction n with
  | zero => exact sd_fail
  | succ n ih => exact kz_R_check_58b ih
noncomputable def kd_R_check_49 : kt_D := ki_aload 2 <| ki_astore 3 <| ki_aload 3 <| ki_alenX <| ki_istore 4 <| ki_push (.int 0) <| ki_istore 5 <| (ki_drop 2 (kd_R_check_58 100))
theorem kz_R_check_49 : kt_Snd l kt_shC kb_R_check 7 RX2 (some .int) 1 0 0 true true 49 kd_R_check_49 :=
  sd_aload_n (pc := 49) (kt_tab_get kx_R_check 30 rfl) rfl <|
  sd_astore_n (pc := 50) (kt_tab_get kx_R_check 31 rfl) rfl (by decide) <|
  sd_aload_n (pc := 51) (kt_tab_get kx_R_check 32 rfl) rfl <|
  sd_alenX (pc := 52) (kt_tab_get kx_R_check 33 rfl) <|
  sd_istore (pc := 53) (kt_tab_get kx_R_check 34 rfl) (by decide) <|
  sd_iconst (pc := 55) (kt_tab_get kx_R_check 35 rfl) kc_i_0 <|
  sd_istore (pc := 56) (kt_tab_get kx_R_check 36 rfl) (by decide) <|
  (sd_drop (k := 2) (kz_R_check_58 100))
noncomputable def kd_R_check_43 (kh_2 : kt_D) : kt_D := ki_iinc 3 1 <| kh_2
theorem kz_R_check_43 {kh_2 : kt_D} (zh_2 : kt_Snd l kt_shC kb_R_check 7 RX2 (some .int) 1 0 0 true true 2 kh_2) : kt_Snd l kt_shC kb_R_check 7 RX2 (some .int) 1 0 0 true true 43 (kd_R_check_43 kh_2) :=
  sd_iinc (pc := 43) (kt_tab_get kx_R_check 28 rfl) kc_i_1 (by decide) <|
  sd_goto (pc := 46) (tgt := 2) (kt_tab_get kx_R_check 29 rfl) rfl zh_2
noncomputable def kd_R_check_41 : kt_D := ki_push (.int 3) <| ki_iret
theorem kz_R_check_41 : kt_Snd l kt_shC kb_R_check 7 RX2 (some .int) 1 0 0 true true 41 kd_R_check_41 :=
  sd_iconst (pc := 41) (kt_tab_get kx_R_check 26 rfl) kc_i_3 <|
  sd_iret (pc := 42) rfl (by decide) (kt_tab_get kx_R_check 27 rfl)
noncomputable def kd_R_check_29 (kh_2 : kt_D) : kt_D := ki_aload 0 <| ki_get kt_shC 2 1 <| ki_iload 3 <| ki_iald kt_shC <| ki_aload 1 <| ki_iload 3 <| ki_ialdX <| ki_icmp_eq (kd_R_check_43 kh_2) (ki_drop 3 (ki_drop 2 (ki_drop 1 (ki_drop 0 kd_R_check_41))))
theorem kz_R_check_29 {kh_2 : kt_D} (zh_2 : kt_Snd l kt_shC kb_R_check 7 RX2 (some .int) 1 0 0 true true 2 kh_2) : kt_Snd l kt_shC kb_R_check 7 RX2 (some .int) 1 0 0 true true 29 (kd_R_check_29 kh_2) :=
  sd_aload_n (pc := 29) (kt_tab_get kx_R_check 18 rfl) rfl <|
  sd_get (pc := 30) (k := 1) (ci := 2) kt_hc2 kt_hin2 (by decide) (kt_tab_get kx_R_check 19 rfl) (kg_R_check_in _ (List.mem_of_getElem? (i := 5) rfl)) <|
  sd_iload_n (pc := 33) (kt_tab_get kx_R_check 20 rfl) rfl <|
  sd_iald (pc := 34) (kt_tab_get kx_R_check 21 rfl) <|
  sd_aload_n (pc := 35) (kt_tab_get kx_R_check 22 rfl) rfl <|
  sd_iload_n (pc := 36) (kt_tab_get kx_R_check 23 rfl) rfl <|
  sd_ialdX (pc := 37) (kt_tab_get kx_R_check 24 rfl) <|
  sd_icmp_eq (pc := 38) (tgt := 43) (kt_tab_get kx_R_check 25 rfl) rfl (kz_R_check_43 zh_2) (sd_drop (k := 3) (sd_drop (k := 2) (sd_drop (k := 1) (sd_drop (k := 0) kz_R_check_41))))
noncomputable def kd_R_check_21 (kh_2 : kt_D) : kt_D := ki_aload 0 <| ki_iload 3 <| ki_callV kt_shC 2 1 kf_R_has <| ki_if_eq (kd_R_check_43 kh_2) (kd_R_check_29 kh_2)
theorem kz_R_check_21 {kh_2 : kt_D} (zh_2 : kt_Snd l kt_shC kb_R_check 7 RX2 (some .int) 1 0 0 true true 2 kh_2) : kt_Snd l kt_shC kb_R_check 7 RX2 (some .int) 1 0 0 true true 21 (kd_R_check_21 kh_2) :=
  sd_aload_n (pc := 21) (kt_tab_get kx_R_check 14 rfl) rfl <|
  sd_iload_n (pc := 22) (kt_tab_get kx_R_check 15 rfl) rfl <|
  sd_callV (pc := 23) km_R_has (by decide) kv_R_has (ci := 2) kt_hc2 (by decide) (kt_tab_get kx_R_check 16 rfl) (kg_R_check_in _ (List.mem_of_getElem? (i := 4) rfl)) <|
  sd_if_eq (pc := 26) (tgt := 43) (kt_tab_get kx_R_check 17 rfl) rfl (kz_R_check_43 zh_2) (kz_R_check_29 zh_2)
noncomputable def kd_R_check_14 (kh_2 : kt_D) : kt_D := ki_aload 1 <| ki_iload 3 <| ki_ialdX <| ki_push (.int (-1)) <| ki_icmp_eq (kd_R_check_43 kh_2) (kd_R_check_21 kh_2)
theorem kz_R_check_14 {kh_2 : kt_D} (zh_2 : kt_Snd l kt_shC kb_R_check 7 RX2 (some .int) 1 0 0 true true 2 kh_2) : kt_Snd l kt_shC kb_R_check 7 RX2 (some .int) 1 0 0 true true 14 (kd_R_check_14 kh_2) :=
  sd_aload_n (pc := 14) (kt_tab_get kx_R_check 9 rfl) rfl <|
  sd_iload_n (pc := 15) (kt_tab_get kx_R_check 10 rfl) rfl <|
  sd_ialdX (pc := 16) (kt_tab_get kx_R_check 11 rfl) <|
  sd_iconst (pc := 17) (kt_tab_get kx_R_check 12 rfl) kc_i_m1 <|
  sd_icmp_eq (pc := 18) (tgt := 43) (kt_tab_get kx_R_check 13 rfl) rfl (kz_R_check_43 zh_2) (kz_R_check_21 zh_2)
noncomputable def kd_R_check_8 (kh_2 : kt_D) : kt_D := ki_iload 3 <| ki_push (.int 8) <| ki_icmp_gt (ki_drop 3 (ki_drop 1 kd_R_check_49)) (kd_R_check_14 kh_2)
theorem kz_R_check_8 {kh_2 : kt_D} (zh_2 : kt_Snd l kt_shC kb_R_check 7 RX2 (some .int) 1 0 0 true true 2 kh_2) : kt_Snd l kt_shC kb_R_check 7 RX2 (some .int) 1 0 0 true true 8 (kd_R_check_8 kh_2) :=
  sd_iload_n (pc := 8) (kt_tab_get kx_R_check 6 rfl) rfl <|
  sd_bipush (pc := 9) (kt_tab_get kx_R_check 7 rfl) kc_b_8 <|
  sd_icmp_gt (pc := 11) (tgt := 49) (kt_tab_get kx_R_check 8 rfl) rfl (sd_drop (k := 3) (sd_drop (k := 1) kz_R_check_49)) (kz_R_check_14 zh_2)
noncomputable def kd_R_check_2b (kh_2 : kt_D) : kt_D := ki_iload 3 <| ki_aload 1 <| ki_alenX <| ki_icmp_ge (ki_drop 3 (ki_drop 1 kd_R_check_49)) (kd_R_check_8 kh_2)
theorem kz_R_check_2b {kh_2 : kt_D} (zh_2 : kt_Snd l kt_shC kb_R_check 7 RX2 (some .int) 1 0 0 true true 2 kh_2) : kt_Snd l kt_shC kb_R_check 7 RX2 (some .int) 1 0 0 true true 2 (kd_R_check_2b kh_2) :=
  sd_iload_n (pc := 2) (kt_tab_get kx_R_check 2 rfl) rfl <|
  sd_aload_n (pc := 3) (kt_tab_get kx_R_check 3 rfl) rfl <|
  sd_alenX (pc := 4) (kt_tab_get kx_R_check 4 rfl) <|
  sd_icmp_ge (pc := 5) (tgt := 49) (kt_tab_get kx_R_check 5 rfl) rfl (sd_drop (k := 3) (sd_drop (k := 1) kz_R_check_49)) (kz_R_check_8 zh_2)
noncomputable def kd_R_check_2 (n : Nat) : kt_D := Nat.rec (fun _ _ _ => none) (fun _ ih => kd_R_check_2b ih) n
theorem kz_R_check_2 (n : Nat) : kt_Snd l kt_shC kb_R_check 7 RX2 (some .int) 1 0 0 true true 2 (kd_R_check_2 n) := by
  induction n with
  | zero => exact sd_fail
  | succ n ih => exact kz_R_check_2b ih
noncomputable def kd_R_check_0 : kt_D := ki_push (.int 1) <| ki_istore 3 <| (kd_R_check_2 100)
theorem kz_R_check_0 : kt_Snd l kt_shC kb_R_check 7 RX2 (some .int) 1 0 0 true true 0 kd_R_check_0 :=
  sd_iconst (pc := 0) (kt_tab_get kx_R_check 0 rfl) kc_i_1 <|
  sd_istore_n (pc := 1) (kt_tab_get kx_R_check 1 rfl) rfl (by decide) <|
  (kz_R_check_2 100)
noncomputable def kf_R_check : kt_F := kt_run 7 kd_R_check_0
theorem km_R_check : kt_M l kt_shC ky_R_check kb_R_check 7 (some .int) 1 true kf_R_check := kt_method (by decide) rfl kz_R_check_0
noncomputable def kd_R_checkMake_0 : kt_D := ki_aload 0 <| ki_push (.ref 100) <| ki_push (.ref 101) <| ki_callV kt_shC 2 2 kf_R_check <| ki_iret
theorem kz_R_checkMake_0 : kt_Snd l kt_shC kb_R_checkMake 1 RX2 (some .int) 2 0 0 true true 0 kd_R_checkMake_0 :=
  sd_aload_n (pc := 0) (kt_tab_get kx_R_checkMake 0 rfl) rfl <|
  sd_gets (pc := 1) (q := 0) rfl (kt_tab_get kx_R_checkMake 1 rfl) (kg_R_checkMake_in _ (List.mem_of_getElem? (i := 4) rfl)) <|
  sd_gets (pc := 4) (q := 1) rfl (kt_tab_get kx_R_checkMake 2 rfl) (kg_R_checkMake_in _ (List.mem_of_getElem? (i := 5) rfl)) <|
  sd_callV (pc := 7) km_R_check (by decide) kv_R_check (ci := 2) kt_hc2 (by decide) (kt_tab_get kx_R_checkMake 3 rfl) (kg_R_checkMake_in _ (List.mem_of_getElem? (i := 6) rfl)) <|
  sd_iret (pc := 10) rfl (by decide) (kt_tab_get kx_R_checkMake 4 rfl)
noncomputable def kf_R_checkMake : kt_F := kt_run 1 kd_R_checkMake_0
theorem km_R_checkMake : kt_M l kt_shC ky_R_checkMake kb_R_checkMake 1 (some .int) 2 true kf_R_checkMake := kt_method (by decide) rfl kz_R_checkMake_0
noncomputable def kd_R_checkAssert_0 : kt_D := ki_aload 0 <| ki_push (.ref 102) <| ki_push (.ref 103) <| ki_callV kt_shC 2 2 kf_R_check <| ki_iret
theorem kz_R_checkAssert_0 : kt_Snd l kt_shC kb_R_checkAssert 1 RX2 (some .int) 2 0 0 true true 0 kd_R_checkAssert_0 :=
  sd_aload_n (pc := 0) (kt_tab_get kx_R_checkAssert 0 rfl) rfl <|
  sd_gets (pc := 1) (q := 2) rfl (kt_tab_get kx_R_checkAssert 1 rfl) (kg_R_checkAssert_in _ (List.mem_of_getElem? (i := 4) rfl)) <|
  sd_gets (pc := 4) (q := 3) rfl (kt_tab_get kx_R_checkAssert 2 rfl) (kg_R_checkAssert_in _ (List.mem_of_getElem? (i := 5) rfl)) <|
  sd_callV (pc := 7) km_R_check (by decide) kv_R_check (ci := 2) kt_hc2 (by decide) (kt_tab_get kx_R_checkAssert 3 rfl) (kg_R_checkAssert_in _ (List.mem_of_getElem? (i := 6) rfl)) <|
  sd_iret (pc := 10) rfl (by decide) (kt_tab_get kx_R_checkAssert 4 rfl)
noncomputable def kf_R_checkAssert : kt_F := kt_run 1 kd_R_checkAssert_0
theorem km_R_checkAssert : kt_M l kt_shC ky_R_checkAssert kb_R_checkAssert 1 (some .int) 2 true kf_R_checkAssert := kt_method (by decide) rfl kz_R_checkAssert_0
noncomputable def kd_R_numberOf_18 : kt_D := ki_iret
theorem kz_R_numberOf_18 : kt_Snd l kt_shC kb_R_numberOf 2 RX2 (some .int) 1 0 0 true true 18 kd_R_numberOf_18 :=
  sd_iret (pc := 18) rfl (by decide) (kt_tab_get kx_R_numberOf 10 rfl)
noncomputable def kd_R_numberOf_17 : kt_D := ki_push (.int 0) <| kd_R_numberOf_18
theorem kz_R_numberOf_17 : kt_Snd l kt_shC kb_R_numberOf 2 RX2 (some .int) 1 0 0 true true 17 kd_R_numberOf_17 :=
  sd_iconst (pc := 17) (kt_tab_get kx_R_numberOf 9 rfl) kc_i_0 <|
  kz_R_numberOf_18
noncomputable def kd_R_numberOf_8 : kt_D := ki_aload 0 <| ki_get kt_shC 2 2 <| ki_iload 1 <| ki_iald kt_shC <| (ki_drop 1 (ki_drop 0 kd_R_numberOf_18))
theorem kz_R_numberOf_8 : kt_Snd l kt_shC kb_R_numberOf 2 RX2 (some .int) 1 0 0 true true 8 kd_R_numberOf_8 :=
  sd_aload_n (pc := 8) (kt_tab_get kx_R_numberOf 4 rfl) rfl <|
  sd_get (pc := 9) (k := 2) (ci := 2) kt_hc2 kt_hin2 (by decide) (kt_tab_get kx_R_numberOf 5 rfl) (kg_R_numberOf_in _ (List.mem_of_getElem? (i := 4) rfl)) <|
  sd_iload_n (pc := 12) (kt_tab_get kx_R_numberOf 6 rfl) rfl <|
  sd_iald (pc := 13) (kt_tab_get kx_R_numberOf 7 rfl) <|
  sd_goto (pc := 14) (tgt := 18) (kt_tab_get kx_R_numberOf 8 rfl) rfl (sd_drop (k := 1) (sd_drop (k := 0) kz_R_numberOf_18))
noncomputable def kd_R_numberOf_0 : kt_D := ki_aload 0 <| ki_iload 1 <| ki_callV kt_shC 2 1 kf_R_has <| ki_if_eq (ki_drop 1 (ki_drop 0 kd_R_numberOf_17)) kd_R_numberOf_8
theorem kz_R_numberOf_0 : kt_Snd l kt_shC kb_R_numberOf 2 RX2 (some .int) 1 0 0 true true 0 kd_R_numberOf_0 :=
  sd_aload_n (pc := 0) (kt_tab_get kx_R_numberOf 0 rfl) rfl <|
  sd_iload_n (pc := 1) (kt_tab_get kx_R_numberOf 1 rfl) rfl <|
  sd_callV (pc := 2) km_R_has (by decide) kv_R_has (ci := 2) kt_hc2 (by decide) (kt_tab_get kx_R_numberOf 2 rfl) (kg_R_numberOf_in _ (List.mem_of_getElem? (i := 5) rfl)) <|
  sd_if_eq (pc := 5) (tgt := 17) (kt_tab_get kx_R_numberOf 3 rfl) rfl (sd_drop (k := 1) (sd_drop (k := 0) kz_R_numberOf_17)) kz_R_numberOf_8
noncomputable def kf_R_numberOf : kt_F := kt_run 2 kd_R_numberOf_0
theorem km_R_numberOf : kt_M l kt_shC ky_R_numberOf kb_R_numberOf 2 (some .int) 1 true kf_R_numberOf := kt_method (by decide) rfl kz_R_numberOf_0
noncomputable def kd_R_checkPin_86 : kt_D := ki_iret
theorem kz_R_checkPin_86 : kt_Snd l kt_shC kb_R_checkPin 5 RX2 (some .int) 2 0 0 true true 86 kd_R_checkPin_86 :=
  sd_iret (pc := 86) rfl (by decide) (kt_tab_get kx_R_checkPin 48 rfl)
noncomputable def kd_R_checkPin_81 : kt_D := ki_push (.int 4) <| kd_R_checkPin_86
theorem kz_R_checkPin_81 : kt_Snd l kt_shC kb_R_checkPin 5 RX2 (some .int) 2 0 0 true true 81 kd_R_checkPin_81 :=
  sd_iconst (pc := 81) (kt_tab_get kx_R_checkPin 45 rfl) kc_i_4 <|
  sd_goto (pc := 82) (tgt := 86) (kt_tab_get kx_R_checkPin 46 rfl) rfl kz_R_checkPin_86
noncomputable def kd_R_checkPin_85 : kt_D := ki_push (.int 0) <| kd_R_checkPin_86
theorem kz_R_checkPin_85 : kt_Snd l kt_shC kb_R_checkPin 5 RX2 (some .int) 2 0 0 true true 85 kd_R_checkPin_85 :=
  sd_iconst (pc := 85) (kt_tab_get kx_R_checkPin 47 rfl) kc_i_0 <|
  kz_R_checkPin_86
noncomputable def kd_R_checkPin_76 : kt_D := ki_iload 4 <| ki_if_eq (ki_drop 4 kd_R_checkPin_85) (ki_drop 4 kd_R_checkPin_81)
theorem kz_R_checkPin_76 : kt_Snd l kt_shC kb_R_checkPin 5 RX2 (some .int) 2 0 0 true true 76 kd_R_checkPin_76 :=
  sd_iload (pc := 76) (kt_tab_get kx_R_checkPin 43 rfl) <|
  sd_if_eq (pc := 78) (tgt := 85) (kt_tab_get kx_R_checkPin 44 rfl) rfl (sd_drop (k := 4) kz_R_checkPin_85) (sd_drop (k := 4) kz_R_checkPin_81)
noncomputable def kd_R_checkPin_70 : kt_D := ki_istore 4 <| ki_iload 3 <| ki_if_ne (ki_drop 4 (ki_drop 3 kd_R_checkPin_81)) (ki_drop 3 kd_R_checkPin_76)
theorem kz_R_checkPin_70 : kt_Snd l kt_shC kb_R_checkPin 5 RX2 (some .int) 2 0 0 true true 70 kd_R_checkPin_70 :=
  sd_istore (pc := 70) (kt_tab_get kx_R_checkPin 40 rfl) (by decide) <|
  sd_iload_n (pc := 72) (kt_tab_get kx_R_checkPin 41 rfl) rfl <|
  sd_if_ne (pc := 73) (tgt := 81) (kt_tab_get kx_R_checkPin 42 rfl) rfl (sd_drop (k := 4) (sd_drop (k := 3) kz_R_checkPin_81)) (sd_drop (k := 3) kz_R_checkPin_76)
noncomputable def kd_R_checkPin_69 : kt_D := ki_push (.int 0) <| kd_R_checkPin_70
theorem kz_R_checkPin_69 : kt_Snd l kt_shC kb_R_checkPin 5 RX2 (some .int) 2 0 0 true true 69 kd_R_checkPin_69 :=
  sd_iconst (pc := 69) (kt_tab_get kx_R_checkPin 39 rfl) kc_i_0 <|
  kz_R_checkPin_70
noncomputable def kd_R_checkPin_65 : kt_D := ki_push (.int 1) <| kd_R_checkPin_70
theorem kz_R_checkPin_65 : kt_Snd l kt_shC kb_R_checkPin 5 RX2 (some .int) 2 0 0 true true 65 kd_R_checkPin_65 :=
  sd_iconst (pc := 65) (kt_tab_get kx_R_checkPin 37 rfl) kc_i_1 <|
  sd_goto (pc := 66) (tgt := 70) (kt_tab_get kx_R_checkPin 38 rfl) rfl kz_R_checkPin_70
noncomputable def kd_R_checkPin_57 : kt_D := ki_aload 0 <| ki_push (.int 3) <| ki_callV kt_shC 2 1 kf_R_has <| ki_if_ne (ki_drop 0 kd_R_checkPin_69) (ki_drop 0 kd_R_checkPin_65)
theorem kz_R_checkPin_57 : kt_Snd l kt_shC kb_R_checkPin 5 RX2 (some .int) 2 0 0 true true 57 kd_R_checkPin_57 :=
  sd_aload_n (pc := 57) (kt_tab_get kx_R_checkPin 33 rfl) rfl <|
  sd_iconst (pc := 58) (kt_tab_get kx_R_checkPin 34 rfl) kc_i_3 <|
  sd_callV (pc := 59) km_R_has (by decide) kv_R_has (ci := 2) kt_hc2 (by decide) (kt_tab_get kx_R_checkPin 35 rfl) (kg_R_checkPin_in _ (List.mem_of_getElem? (i := 4) rfl)) <|
  sd_if_ne (pc := 62) (tgt := 69) (kt_tab_get kx_R_checkPin 36 rfl) rfl (sd_drop (k := 0) kz_R_checkPin_69) (sd_drop (k := 0) kz_R_checkPin_65)
noncomputable def kd_R_checkPin_52 : kt_D := ki_iload 2 <| ki_push (.int 4) <| ki_icmp_ne (ki_drop 2 (ki_drop 0 kd_R_checkPin_69)) (ki_drop 2 kd_R_checkPin_57)
theorem kz_R_checkPin_52 : kt_Snd l kt_shC kb_R_checkPin 5 RX2 (some .int) 2 0 0 true true 52 kd_R_checkPin_52 :=
  sd_iload_n (pc := 52) (kt_tab_get kx_R_checkPin 30 rfl) rfl <|
  sd_iconst (pc := 53) (kt_tab_get kx_R_checkPin 31 rfl) kc_i_4 <|
  sd_icmp_ne (pc := 54) (tgt := 69) (kt_tab_get kx_R_checkPin 32 rfl) rfl (sd_drop (k := 2) (sd_drop (k := 0) kz_R_checkPin_69)) (sd_drop (k := 2) kz_R_checkPin_57)
noncomputable def kd_R_checkPin_46 : kt_D := ki_istore 3 <| ki_iload 2 <| ki_push (.int 3) <| ki_icmp_eq (ki_drop 2 kd_R_checkPin_57) kd_R_checkPin_52
theorem kz_R_checkPin_46 : kt_Snd l kt_shC kb_R_checkPin 5 RX2 (some .int) 2 0 0 true true 46 kd_R_checkPin_46 :=
  sd_istore_n (pc := 46) (kt_tab_get kx_R_checkPin 26 rfl) rfl (by decide) <|
  sd_iload_n (pc := 47) (kt_tab_get kx_R_checkPin 27 rfl) rfl <|
  sd_iconst (pc := 48) (kt_tab_get kx_R_checkPin 28 rfl) kc_i_3 <|
  sd_icmp_eq (pc := 49) (tgt := 57) (kt_tab_get kx_R_checkPin 29 rfl) rfl (sd_drop (k := 2) kz_R_checkPin_57) kz_R_checkPin_52
noncomputable def kd_R_checkPin_45 : kt_D := ki_push (.int 0) <| kd_R_checkPin_46
theorem kz_R_checkPin_45 : kt_Snd l kt_shC kb_R_checkPin 5 RX2 (some .int) 2 0 0 true true 45 kd_R_checkPin_45 :=
  sd_iconst (pc := 45) (kt_tab_get kx_R_checkPin 25 rfl) kc_i_0 <|
  kz_R_checkPin_46
noncomputable def kd_R_checkPin_41 : kt_D := ki_push (.int 1) <| kd_R_checkPin_46
theorem kz_R_checkPin_41 : kt_Snd l kt_shC kb_R_checkPin 5 RX2 (some .int) 2 0 0 true true 41 kd_R_checkPin_41 :=
  sd_iconst (pc := 41) (kt_tab_get kx_R_checkPin 23 rfl) kc_i_1 <|
  sd_goto (pc := 42) (tgt := 46) (kt_tab_get kx_R_checkPin 24 rfl) rfl kz_R_checkPin_46
noncomputable def kd_R_checkPin_33 : kt_D := ki_aload 0 <| ki_push (.int 2) <| ki_callV kt_shC 2 1 kf_R_has <| ki_if_ne kd_R_checkPin_45 kd_R_checkPin_41
theorem kz_R_checkPin_33 : kt_Snd l kt_shC kb_R_checkPin 5 RX2 (some .int) 2 0 0 true true 33 kd_R_checkPin_33 :=
  sd_aload_n (pc := 33) (kt_tab_get kx_R_checkPin 19 rfl) rfl <|
  sd_iconst (pc := 34) (kt_tab_get kx_R_checkPin 20 rfl) kc_i_2 <|
  sd_callV (pc := 35) km_R_has (by decide) kv_R_has (ci := 2) kt_hc2 (by decide) (kt_tab_get kx_R_checkPin 21 rfl) (kg_R_checkPin_in _ (List.mem_of_getElem? (i := 4) rfl)) <|
  sd_if_ne (pc := 38) (tgt := 45) (kt_tab_get kx_R_checkPin 22 rfl) rfl kz_R_checkPin_45 kz_R_checkPin_41
noncomputable def kd_R_checkPin_28 : kt_D := ki_iload 2 <| ki_push (.int 5) <| ki_icmp_ne kd_R_checkPin_45 kd_R_checkPin_33
theorem kz_R_checkPin_28 : kt_Snd l kt_shC kb_R_checkPin 5 RX2 (some .int) 2 0 0 true true 28 kd_R_checkPin_28 :=
  sd_iload_n (pc := 28) (kt_tab_get kx_R_checkPin 16 rfl) rfl <|
  sd_iconst (pc := 29) (kt_tab_get kx_R_checkPin 17 rfl) kc_i_5 <|
  sd_icmp_ne (pc := 30) (tgt := 45) (kt_tab_get kx_R_checkPin 18 rfl) rfl kz_R_checkPin_45 kz_R_checkPin_33
noncomputable def kd_R_checkPin_17 : kt_D := ki_aload 0 <| ki_push (.int 1) <| ki_callV kt_shC 2 1 kf_R_numberOf <| ki_istore 2 <| ki_iload 2 <| ki_push (.int 4) <| ki_icmp_eq kd_R_checkPin_33 kd_R_checkPin_28
theorem kz_R_checkPin_17 : kt_Snd l kt_shC kb_R_checkPin 5 RX2 (some .int) 2 0 0 true true 17 kd_R_checkPin_17 :=
  sd_aload_n (pc := 17) (kt_tab_get kx_R_checkPin 9 rfl) rfl <|
  sd_iconst (pc := 18) (kt_tab_get kx_R_checkPin 10 rfl) kc_i_1 <|
  sd_callV (pc := 19) km_R_numberOf (by decide) kv_R_numberOf (ci := 2) kt_hc2 (by decide) (kt_tab_get kx_R_checkPin 11 rfl) (kg_R_checkPin_in _ (List.mem_of_getElem? (i := 5) rfl)) <|
  sd_istore_n (pc := 22) (kt_tab_get kx_R_checkPin 12 rfl) rfl (by decide) <|
  sd_iload_n (pc := 23) (kt_tab_get kx_R_checkPin 13 rfl) rfl <|
  sd_iconst (pc := 24) (kt_tab_get kx_R_checkPin 14 rfl) kc_i_4 <|
  sd_icmp_eq (pc := 25) (tgt := 33) (kt_tab_get kx_R_checkPin 15 rfl) rfl kz_R_checkPin_33 kz_R_checkPin_28
noncomputable def kd_R_checkPin_15 : kt_D := ki_iload 1 <| ki_iret
theorem kz_R_checkPin_15 : kt_Snd l kt_shC kb_R_checkPin 5 RX2 (some .int) 2 0 0 true true 15 kd_R_checkPin_15 :=
  sd_iload_n (pc := 15) (kt_tab_get kx_R_checkPin 7 rfl) rfl <|
  sd_iret (pc := 16) rfl (by decide) (kt_tab_get kx_R_checkPin 8 rfl)
noncomputable def kd_R_checkPin_0 : kt_D := ki_aload 0 <| ki_push (.ref 104) <| ki_push (.ref 105) <| ki_callV kt_shC 2 2 kf_R_check <| ki_istore 1 <| ki_iload 1 <| ki_if_eq (ki_drop 1 kd_R_checkPin_17) (ki_drop 0 kd_R_checkPin_15)
theorem kz_R_checkPin_0 : kt_Snd l kt_shC kb_R_checkPin 5 RX2 (some .int) 2 0 0 true true 0 kd_R_checkPin_0 :=
  sd_aload_n (pc := 0) (kt_tab_get kx_R_checkPin 0 rfl) rfl <|
  sd_gets (pc := 1) (q := 4) rfl (kt_tab_get kx_R_checkPin 1 rfl) (kg_R_checkPin_in _ (List.mem_of_getElem? (i := 6) rfl)) <|
  sd_gets (pc := 4) (q := 5) rfl (kt_tab_get kx_R_checkPin 2 rfl) (kg_R_checkPin_in _ (List.mem_of_getElem? (i := 7) rfl)) <|
  sd_callV (pc := 7) km_R_check (by decide) kv_R_check (ci := 2) kt_hc2 (by decide) (kt_tab_get kx_R_checkPin 3 rfl) (kg_R_checkPin_in _ (List.mem_of_getElem? (i := 8) rfl)) <|
  sd_istore_n (pc := 10) (kt_tab_get kx_R_checkPin 4 rfl) rfl (by decide) <|
  sd_iload_n (pc := 11) (kt_tab_get kx_R_checkPin 5 rfl) rfl <|
  sd_if_eq (pc := 12) (tgt := 17) (kt_tab_get kx_R_checkPin 6 rfl) rfl (sd_drop (k := 1) kz_R_checkPin_17) (sd_drop (k := 0) kz_R_checkPin_15)
noncomputable def kf_R_checkPin : kt_F := kt_run 5 kd_R_checkPin_0
theorem km_R_checkPin : kt_M l kt_shC ky_R_checkPin kb_R_checkPin 5 (some .int) 2 true kf_R_checkPin := kt_method (by decide) rfl kz_R_checkPin_0
noncomputable def kd_R_lists_18 : kt_D := ki_zret
theorem kz_R_lists_18 : kt_Snd l kt_shC kb_R_lists 3 RX2 (some .boolean) 2 0 0 true true 18 kd_R_lists_18 :=
  sd_zret (pc := 18) rfl (by decide) (kt_tab_get kx_R_lists 12 rfl)
noncomputable def kd_R_lists_17 : kt_D := ki_push (.int 0) <| kd_R_lists_18
theorem kz_R_lists_17 : kt_Snd l kt_shC kb_R_lists 3 RX2 (some .boolean) 2 0 0 true true 17 kd_R_lists_17 :=
  sd_iconst (pc := 17) (kt_tab_get kx_R_lists 11 rfl) kc_i_0 <|
  kz_R_lists_18
noncomputable def kd_R_lists_13 : kt_D := ki_push (.int 1) <| kd_R_lists_18
theorem kz_R_lists_13 : kt_Snd l kt_shC kb_R_lists 3 RX2 (some .boolean) 2 0 0 true true 13 kd_R_lists_13 :=
  sd_iconst (pc := 13) (kt_tab_get kx_R_lists 9 rfl) kc_i_1 <|
  sd_goto (pc := 14) (tgt := 18) (kt_tab_get kx_R_lists 10 rfl) rfl kz_R_lists_18
noncomputable def kd_R_lists_0 : kt_D := ki_aload 0 <| ki_iload 1 <| ki_callV kt_shC 2 1 kf_R_numberOf <| ki_iload 2 <| ki_ishr <| ki_push (.int 1) <| ki_iand <| ki_push (.int 1) <| ki_icmp_ne (ki_drop 2 (ki_drop 1 (ki_drop 0 kd_R_lists_17))) (ki_drop 2 (ki_drop 1 (ki_drop 0 kd_R_lists_13)))
theorem kz_R_lists_0 : kt_Snd l kt_shC kb_R_lists 3 RX2 (some .boolean) 2 0 0 true true 0 kd_R_lists_0 :=
  sd_aload_n (pc := 0) (kt_tab_get kx_R_lists 0 rfl) rfl <|
  sd_iload_n (pc := 1) (kt_tab_get kx_R_lists 1 rfl) rfl <|
  sd_callV (pc := 2) km_R_numberOf (by decide) kv_R_numberOf (ci := 2) kt_hc2 (by decide) (kt_tab_get kx_R_lists 2 rfl) (kg_R_lists_in _ (List.mem_of_getElem? (i := 4) rfl)) <|
  sd_iload_n (pc := 5) (kt_tab_get kx_R_lists 3 rfl) rfl <|
  sd_ishr (pc := 6) (kt_tab_get kx_R_lists 4 rfl) <|
  sd_iconst (pc := 7) (kt_tab_get kx_R_lists 5 rfl) kc_i_1 <|
  sd_iand (pc := 8) (kt_tab_get kx_R_lists 6 rfl) <|
  sd_iconst (pc := 9) (kt_tab_get kx_R_lists 7 rfl) kc_i_1 <|
  sd_icmp_ne (pc := 10) (tgt := 17) (kt_tab_get kx_R_lists 8 rfl) rfl (sd_drop (k := 2) (sd_drop (k := 1) (sd_drop (k := 0) kz_R_lists_17))) (sd_drop (k := 2) (sd_drop (k := 1) (sd_drop (k := 0) kz_R_lists_13)))
noncomputable def kf_R_lists : kt_F := kt_run 3 kd_R_lists_0
theorem km_R_lists : kt_M l kt_shC ky_R_lists kb_R_lists 3 (some .boolean) 2 true kf_R_lists := kt_method (by decide) rfl kz_R_lists_0
noncomputable def kd_R_textHas_23 : kt_D := ki_zret
theorem kz_R_textHas_23 : kt_Snd l kt_shC kb_R_textHas 4 RX2 (some .boolean) 2 0 0 true true 23 kd_R_textHas_23 :=
  sd_zret (pc := 23) rfl (by decide) (kt_tab_get kx_R_textHas 13 rfl)
noncomputable def kd_R_textHas_22 : kt_D := ki_push (.int 0) <| kd_R_textHas_23
theorem kz_R_textHas_22 : kt_Snd l kt_shC kb_R_textHas 4 RX2 (some .boolean) 2 0 0 true true 22 kd_R_textHas_22 :=
  sd_iconst (pc := 22) (kt_tab_get kx_R_textHas 12 rfl) kc_i_0 <|
  kz_R_textHas_23
noncomputable def kd_R_textHas_18 : kt_D := ki_push (.int 1) <| kd_R_textHas_23
theorem kz_R_textHas_18 : kt_Snd l kt_shC kb_R_textHas 4 RX2 (some .boolean) 2 0 0 true true 18 kd_R_textHas_18 :=
  sd_iconst (pc := 18) (kt_tab_get kx_R_textHas 10 rfl) kc_i_1 <|
  sd_goto (pc := 19) (tgt := 23) (kt_tab_get kx_R_textHas 11 rfl) rfl kz_R_textHas_23
noncomputable def kd_R_textHas_9 : kt_D := ki_aload 0 <| ki_iload 1 <| ki_callV kt_shC 2 1 kf_R_numberOf <| ki_iload 3 <| ki_icmp_gt (ki_drop 3 (ki_drop 1 (ki_drop 0 kd_R_textHas_22))) (ki_drop 3 (ki_drop 1 (ki_drop 0 kd_R_textHas_18)))
theorem kz_R_textHas_9 : kt_Snd l kt_shC kb_R_textHas 4 RX2 (some .boolean) 2 0 0 true true 9 kd_R_textHas_9 :=
  sd_aload_n (pc := 9) (kt_tab_get kx_R_textHas 5 rfl) rfl <|
  sd_iload_n (pc := 10) (kt_tab_get kx_R_textHas 6 rfl) rfl <|
  sd_callV (pc := 11) km_R_numberOf (by decide) kv_R_numberOf (ci := 2) kt_hc2 (by decide) (kt_tab_get kx_R_textHas 7 rfl) (kg_R_textHas_in _ (List.mem_of_getElem? (i := 4) rfl)) <|
  sd_iload_n (pc := 14) (kt_tab_get kx_R_textHas 8 rfl) rfl <|
  sd_icmp_gt (pc := 15) (tgt := 22) (kt_tab_get kx_R_textHas 9 rfl) rfl (sd_drop (k := 3) (sd_drop (k := 1) (sd_drop (k := 0) kz_R_textHas_22))) (sd_drop (k := 3) (sd_drop (k := 1) (sd_drop (k := 0) kz_R_textHas_18)))
noncomputable def kd_R_textHas_0 : kt_D := ki_aload 0 <| ki_iload 1 <| ki_callV kt_shC 2 1 kf_R_numberOf <| ki_iload 2 <| ki_icmp_lt (ki_drop 3 (ki_drop 2 (ki_drop 1 (ki_drop 0 kd_R_textHas_22)))) (ki_drop 2 kd_R_textHas_9)
theorem kz_R_textHas_0 : kt_Snd l kt_shC kb_R_textHas 4 RX2 (some .boolean) 2 0 0 true true 0 kd_R_textHas_0 :=
  sd_aload_n (pc := 0) (kt_tab_get kx_R_textHas 0 rfl) rfl <|
  sd_iload_n (pc := 1) (kt_tab_get kx_R_textHas 1 rfl) rfl <|
  sd_callV (pc := 2) km_R_numberOf (by decide) kv_R_numberOf (ci := 2) kt_hc2 (by decide) (kt_tab_get kx_R_textHas 2 rfl) (kg_R_textHas_in _ (List.mem_of_getElem? (i := 4) rfl)) <|
  sd_iload_n (pc := 5) (kt_tab_get kx_R_textHas 3 rfl) rfl <|
  sd_icmp_lt (pc := 6) (tgt := 22) (kt_tab_get kx_R_textHas 4 rfl) rfl (sd_drop (k := 3) (sd_drop (k := 2) (sd_drop (k := 1) (sd_drop (k := 0) kz_R_textHas_22)))) (sd_drop (k := 2) kz_R_textHas_9)
noncomputable def kf_R_textHas : kt_F := kt_run 4 kd_R_textHas_0
theorem km_R_textHas : kt_M l kt_shC ky_R_textHas kb_R_textHas 4 (some .boolean) 2 true kf_R_textHas := kt_method (by decide) rfl kz_R_textHas_0
noncomputable def kd_R_textNumber_70 : kt_D := ki_iload 3 <| ki_iret
theorem kz_R_textNumber_70 : kt_Snd l kt_shC kb_R_textNumber 5 RX2 (some .int) 2 0 0 true true 70 kd_R_textNumber_70 :=
  sd_iload_n (pc := 70) (kt_tab_get kx_R_textNumber 39 rfl) rfl <|
  sd_iret (pc := 71) rfl (by decide) (kt_tab_get kx_R_textNumber 40 rfl)
noncomputable def kd_R_textNumber_47 (kh_34 : kt_D) : kt_D := ki_iload 3 <| ki_push (.int 131) <| ki_imul <| ki_aload 0 <| ki_get kt_shC 2 0 <| ki_get kt_shC 0 0 <| ki_iload 4 <| ki_iald kt_shC <| ki_iadd <| ki_istore 3 <| ki_iinc 4 1 <| kh_34
theorem kz_R_textNumber_47 {kh_34 : kt_D} (zh_34 : kt_Snd l kt_shC kb_R_textNumber 5 RX2 (some .int) 2 0 0 true true 34 kh_34) : kt_Snd l kt_shC kb_R_textNumber 5 RX2 (some .int) 2 0 0 true true 47 (kd_R_textNumber_47 kh_34) :=
  sd_iload_n (pc := 47) (kt_tab_get kx_R_textNumber 27 rfl) rfl <|
  sd_sipush (pc := 48) (kt_tab_get kx_R_textNumber 28 rfl) kc_s_131 <|
  sd_imul (pc := 51) (kt_tab_get kx_R_textNumber 29 rfl) <|
  sd_aload_n (pc := 52) (kt_tab_get kx_R_textNumber 30 rfl) rfl <|
  sd_get (pc := 53) (k := 0) (ci := 2) kt_hc2 kt_hin2 (by decide) (kt_tab_get kx_R_textNumber 31 rfl) (kg_R_textNumber_in _ (List.mem_of_getElem? (i := 4) rfl)) <|
  sd_getN (pc := 56) (k := 0) (ci := 0) kt_hc0 kt_hin0 (by decide) (kt_tab_get kx_R_textNumber 32 rfl) (List.mem_of_getElem? (i := 0) rfl) <|
  sd_iload (pc := 59) (kt_tab_get kx_R_textNumber 33 rfl) <|
  sd_iald (pc := 61) (kt_tab_get kx_R_textNumber 34 rfl) <|
  sd_iadd (pc := 62) (kt_tab_get kx_R_textNumber 35 rfl) <|
  sd_istore_n (pc := 63) (kt_tab_get kx_R_textNumber 36 rfl) rfl (by decide) <|
  sd_iinc (pc := 64) (kt_tab_get kx_R_textNumber 37 rfl) kc_i_1 (by decide) <|
  sd_goto (pc := 67) (tgt := 34) (kt_tab_get kx_R_textNumber 38 rfl) rfl zh_34
noncomputable def kd_R_textNumber_40 (kh_34 : kt_D) : kt_D := ki_iload 4 <| ki_push (.int 48) <| ki_icmp_ge (ki_drop 4 (ki_drop 2 (ki_drop 0 kd_R_textNumber_70))) (kd_R_textNumber_47 kh_34)
theorem kz_R_textNumber_40 {kh_34 : kt_D} (zh_34 : kt_Snd l kt_shC kb_R_textNumber 5 RX2 (some .int) 2 0 0 true true 34 kh_34) : kt_Snd l kt_shC kb_R_textNumber 5 RX2 (some .int) 2 0 0 true true 40 (kd_R_textNumber_40 kh_34) :=
  sd_iload (pc := 40) (kt_tab_get kx_R_textNumber 24 rfl) <|
  sd_bipush (pc := 42) (kt_tab_get kx_R_textNumber 25 rfl) kc_b_48 <|
  sd_icmp_ge (pc := 44) (tgt := 70) (kt_tab_get kx_R_textNumber 26 rfl) rfl (sd_drop (k := 4) (sd_drop (k := 2) (sd_drop (k := 0) kz_R_textNumber_70))) (kz_R_textNumber_47 zh_34)
noncomputable def kd_R_textNumber_34b (kh_34 : kt_D) : kt_D := ki_iload 4 <| ki_iload 2 <| ki_icmp_ge (ki_drop 4 (ki_drop 2 (ki_drop 0 kd_R_textNumber_70))) (kd_R_textNumber_40 kh_34)
theorem kz_R_textNumber_34b {kh_34 : kt_D} (zh_34 : kt_Snd l kt_shC kb_R_textNumber 5 RX2 (some .int) 2 0 0 true true 34 kh_34) : kt_Snd l kt_shC kb_R_textNumber 5 RX2 (some .int) 2 0 0 true true 34 (kd_R_textNumber_34b kh_34) :=
  sd_iload (pc := 34) (kt_tab_get kx_R_textNumber 21 rfl) <|
  sd_iload_n (pc := 36) (kt_tab_get kx_R_textNumber 22 rfl) rfl <|
  sd_icmp_ge (pc := 37) (tgt := 70) (kt_tab_get kx_R_textNumber 23 rfl) rfl (sd_drop (k := 4) (sd_drop (k := 2) (sd_drop (k := 0) kz_R_textNumber_70))) (kz_R_textNumber_40 zh_34)
noncomputable def kd_R_textNumber_34 (n : Nat) : kt_D := Nat.rec (fun _ _ _ => none) (fun _ ih => kd_R_textNumber_34b ih) n
theorem kz_R_textNumber_34 (n : Nat) : kt_Snd l kt_shC kb_R_textNumber 5 RX2 (some .int) 2 0 0 true true 34 (kd_R_textNumber_34 n) := by
  induction n with
  | zero => exact sd_fail
  | succ n ih => exact kz_R_textNumber_34b ih
noncomputable def kd_R_textNumber_18 : kt_D := ki_istore 2 <| ki_push (.int 5) <| ki_istore 3 <| ki_push (.int 0) <| ki_iload 2 <| ki_aload 0 <| ki_iload 1 <| ki_callV kt_shC 2 1 kf_R_numberOf <| ki_isub <| ki_max <| ki_istore 4 <| (ki_drop 1 (kd_R_textNumber_34 100))
theorem kz_R_textNumber_18 : kt_Snd l kt_shC kb_R_textNumber 5 RX2 (some .int) 2 0 0 true true 18 kd_R_textNumber_18 :=
  sd_istore_n (pc := 18) (kt_tab_get kx_R_textNumber 10 rfl) rfl (by decide) <|
  sd_iconst (pc := 19) (kt_tab_get kx_R_textNumber 11 rfl) kc_i_5 <|
  sd_istore_n (pc := 20) (kt_tab_get kx_R_textNumber 12 rfl) rfl (by decide) <|
  sd_iconst (pc := 21) (kt_tab_get kx_R_textNumber 13 rfl) kc_i_0 <|
  sd_iload_n (pc := 22) (kt_tab_get kx_R_textNumber 14 rfl) rfl <|
  sd_aload_n (pc := 23) (kt_tab_get kx_R_textNumber 15 rfl) rfl <|
  sd_iload_n (pc := 24) (kt_tab_get kx_R_textNumber 16 rfl) rfl <|
  sd_callV (pc := 25) km_R_numberOf (by decide) kv_R_numberOf (ci := 2) kt_hc2 (by decide) (kt_tab_get kx_R_textNumber 17 rfl) (kg_R_textNumber_in _ (List.mem_of_getElem? (i := 5) rfl)) <|
  sd_isub (pc := 28) (kt_tab_get kx_R_textNumber 18 rfl) <|
  sd_max (pc := 29) (by decide) (kt_tab_get kx_R_textNumber 19 rfl) (kg_R_textNumber_in _ (List.mem_of_getElem? (i := 6) rfl)) (kg_R_textNumber_in _ (List.mem_of_getElem? (i := 7) rfl)) (kg_R_textNumber_in _ (List.mem_of_getElem? (i := 8) rfl)) (kg_R_textNumber_in _ (List.mem_of_getElem? (i := 9) rfl)) <|
  sd_istore (pc := 32) (kt_tab_get kx_R_textNumber 20 rfl) (by decide) <|
  (sd_drop (k := 1) (kz_R_textNumber_34 100))
noncomputable def kd_R_textNumber_17 : kt_D := ki_push (.int 0) <| kd_R_textNumber_18
theorem kz_R_textNumber_17 : kt_Snd l kt_shC kb_R_textNumber 5 RX2 (some .int) 2 0 0 true true 17 kd_R_textNumber_17 :=
  sd_iconst (pc := 17) (kt_tab_get kx_R_textNumber 9 rfl) kc_i_0 <|
  kz_R_textNumber_18
noncomputable def kd_R_textNumber_8 : kt_D := ki_aload 0 <| ki_get kt_shC 2 3 <| ki_iload 1 <| ki_iald kt_shC <| kd_R_textNumber_18
theorem kz_R_textNumber_8 : kt_Snd l kt_shC kb_R_textNumber 5 RX2 (some .int) 2 0 0 true true 8 kd_R_textNumber_8 :=
  sd_aload_n (pc := 8) (kt_tab_get kx_R_textNumber 4 rfl) rfl <|
  sd_get (pc := 9) (k := 3) (ci := 2) kt_hc2 kt_hin2 (by decide) (kt_tab_get kx_R_textNumber 5 rfl) (kg_R_textNumber_in _ (List.mem_of_getElem? (i := 10) rfl)) <|
  sd_iload_n (pc := 12) (kt_tab_get kx_R_textNumber 6 rfl) rfl <|
  sd_iald (pc := 13) (kt_tab_get kx_R_textNumber 7 rfl) <|
  sd_goto (pc := 14) (tgt := 18) (kt_tab_get kx_R_textNumber 8 rfl) rfl kz_R_textNumber_18
noncomputable def kd_R_textNumber_0 : kt_D := ki_aload 0 <| ki_iload 1 <| ki_callV kt_shC 2 1 kf_R_has <| ki_if_eq kd_R_textNumber_17 kd_R_textNumber_8
theorem kz_R_textNumber_0 : kt_Snd l kt_shC kb_R_textNumber 5 RX2 (some .int) 2 0 0 true true 0 kd_R_textNumber_0 :=
  sd_aload_n (pc := 0) (kt_tab_get kx_R_textNumber 0 rfl) rfl <|
  sd_iload_n (pc := 1) (kt_tab_get kx_R_textNumber 1 rfl) rfl <|
  sd_callV (pc := 2) km_R_has (by decide) kv_R_has (ci := 2) kt_hc2 (by decide) (kt_tab_get kx_R_textNumber 2 rfl) (kg_R_textNumber_in _ (List.mem_of_getElem? (i := 11) rfl)) <|
  sd_if_eq (pc := 5) (tgt := 17) (kt_tab_get kx_R_textNumber 3 rfl) rfl kz_R_textNumber_17 kz_R_textNumber_8
noncomputable def kf_R_textNumber : kt_F := kt_run 5 kd_R_textNumber_0
theorem km_R_textNumber : kt_M l kt_shC ky_R_textNumber kb_R_textNumber 5 (some .int) 2 true kf_R_textNumber := kt_method (by decide) rfl kz_R_textNumber_0
end
