section
variable {l : Launch}
noncomputable def kd_A_fill_20 : kt_D := ki_vret
theorem kz_A_fill_20 : kt_Snd l kt_shC kb_A_fill 4 "java/util/Arrays" none 0 0 0 false false 20 kd_A_fill_20 :=
  sd_vret (pc := 20) rfl (by decide) (kt_tab_get kx_A_fill 14 rfl)
noncomputable def kd_A_fill_10 (kh_5 : kt_D) : kt_D := ki_aload 0 <| ki_iload 2 <| ki_iload 1 <| ki_iast kt_shC <| ki_iinc 2 1 <| kh_5
theorem kz_A_fill_10 {kh_5 : kt_D} (zh_5 : kt_Snd l kt_shC kb_A_fill 4 "java/util/Arrays" none 0 0 0 false false 5 kh_5) : kt_Snd l kt_shC kb_A_fill 4 "java/util/Arrays" none 0 0 0 false false 10 (kd_A_fill_10 kh_5) :=
  sd_aload_n (pc := 10) (kt_tab_get kx_A_fill 8 rfl) rfl <|
  sd_iload_n (pc := 11) (kt_tab_get kx_A_fill 9 rfl) rfl <|
  sd_iload_n (pc := 12) (kt_tab_get kx_A_fill 10 rfl) rfl <|
  sd_iast (pc := 13) (kt_tab_get kx_A_fill 11 rfl) <|
  sd_iinc (pc := 14) (kt_tab_get kx_A_fill 12 rfl) kc_i_1 (by decide) <|
  sd_goto (pc := 17) (tgt := 5) (kt_tab_get kx_A_fill 13 rfl) rfl zh_5
noncomputable def kd_A_fill_5b (kh_5 : kt_D) : kt_D := ki_iload 2 <| ki_iload 3 <| ki_icmp_ge (ki_drop 3 (ki_drop 2 (ki_drop 1 (ki_drop 0 kd_A_fill_20)))) (kd_A_fill_10 kh_5)
theorem kz_A_fill_5b {kh_5 : kt_D} (zh_5 : kt_Snd l kt_shC kb_A_fill 4 "java/util/Arrays" none 0 0 0 false false 5 kh_5) : kt_Snd l kt_shC kb_A_fill 4 "java/util/Arrays" none 0 0 0 false false 5 (kd_A_fill_5b kh_5) :=
  sd_iload_n (pc := 5) (kt_tab_get kx_A_fill 5 rfl) rfl <|
  sd_iload_n (pc := 6) (kt_tab_get kx_A_fill 6 rfl) rfl <|
  sd_icmp_ge (pc := 7) (tgt := 20) (kt_tab_get kx_A_fill 7 rfl) rfl (sd_drop (k := 3) (sd_drop (k := 2) (sd_drop (k := 1) (sd_drop (k := 0) kz_A_fill_20)))) (kz_A_fill_10 zh_5)
noncomputable def kd_A_fill_5 (n : Nat) : kt_D := Nat.rec (fun _ _ _ => none) (fun _ ih => kd_A_fill_5b ih) n
theorem kz_A_fill_5 (n : Nat) : kt_Snd l kt_shC kb_A_fill 4 "java/util/Arrays" none 0 0 0 false false 5 (kd_A_fill_5 n) := by
  induction n with
  | zero => exact sd_fail
  | succ n ih => exact kz_A_fill_5b ih
noncomputable def kd_A_fill_0 : kt_D := ki_push (.int 0) <| ki_istore 2 <| ki_aload 0 <| ki_alen kt_shC <| ki_istore 3 <| (kd_A_fill_5 100)
theorem kz_A_fill_0 : kt_Snd l kt_shC kb_A_fill 4 "java/util/Arrays" none 0 0 0 false false 0 kd_A_fill_0 :=
  sd_iconst (pc := 0) (kt_tab_get kx_A_fill 0 rfl) kc_i_0 <|
  sd_istore_n (pc := 1) (kt_tab_get kx_A_fill 1 rfl) rfl (by decide) <|
  sd_aload_n (pc := 2) (kt_tab_get kx_A_fill 2 rfl) rfl <|
  sd_alen (pc := 3) (kt_tab_get kx_A_fill 3 rfl) <|
  sd_istore_n (pc := 4) (kt_tab_get kx_A_fill 4 rfl) rfl (by decide) <|
  (kz_A_fill_5 100)
noncomputable def kf_A_fill : kt_F := kt_run 4 kd_A_fill_0
theorem km_A_fill : kt_M l kt_shC ky_A_fill kb_A_fill 4 none 0 false kf_A_fill := kt_method (by decide) rfl kz_A_fill_0
end
section
variable {l : Launch}
noncomputable def kd_B_clear_0 : kt_D := ki_aload 0 <| ki_push (.int 0) <| ki_put kt_shC 0 1 0 <| ki_aload 0 <| ki_push (.int 0) <| ki_put kt_shC 0 2 0 <| ki_vret
theorem kz_B_clear_0 : kt_Snd l kt_shC kb_B_clear 1 RX0 none 0 0 0 false false 0 kd_B_clear_0 :=
  sd_aload_n (pc := 0) (kt_tab_get kx_B_clear 0 rfl) rfl <|
  sd_iconst (pc := 1) (kt_tab_get kx_B_clear 1 rfl) kc_i_0 <|
  sd_put (pc := 2) (k := 1) (ci := 0) kt_hc0 kt_hin0 tyX0_ok nmX0 (by decide) rfl rfl (Or.inl ⟨rfl, rfl⟩) (kt_tab_get kx_B_clear 2 rfl) (kg_B_clear_in _ (List.mem_of_getElem? (i := 4) rfl)) <|
  sd_aload_n (pc := 5) (kt_tab_get kx_B_clear 3 rfl) rfl <|
  sd_iconst (pc := 6) (kt_tab_get kx_B_clear 4 rfl) kc_i_0 <|
  sd_put (pc := 7) (k := 2) (ci := 0) kt_hc0 kt_hin0 tyX0_ok nmX0 (by decide) rfl rfl (Or.inl ⟨rfl, rfl⟩) (kt_tab_get kx_B_clear 5 rfl) (kg_B_clear_in _ (List.mem_of_getElem? (i := 5) rfl)) <|
  sd_vret (pc := 10) rfl (by decide) (kt_tab_get kx_B_clear 6 rfl)
noncomputable def kf_B_clear : kt_F := kt_run 1 kd_B_clear_0
theorem km_B_clear : kt_M l kt_shC ky_B_clear kb_B_clear 1 none 0 false kf_B_clear := kt_method (by decide) rfl kz_B_clear_0
noncomputable def kd_B_left_0 : kt_D := ki_aload 0 <| ki_get kt_shC 0 2 <| ki_aload 0 <| ki_get kt_shC 0 1 <| ki_isub <| ki_iret
theorem kz_B_left_0 : kt_Snd l kt_shC kb_B_left 1 RX0 (some .int) 0 0 0 true true 0 kd_B_left_0 :=
  sd_aload_n (pc := 0) (kt_tab_get kx_B_left 0 rfl) rfl <|
  sd_get (pc := 1) (k := 2) (ci := 0) kt_hc0 kt_hin0 (by decide) (kt_tab_get kx_B_left 1 rfl) (kg_B_left_in _ (List.mem_of_getElem? (i := 4) rfl)) <|
  sd_aload_n (pc := 4) (kt_tab_get kx_B_left 2 rfl) rfl <|
  sd_get (pc := 5) (k := 1) (ci := 0) kt_hc0 kt_hin0 (by decide) (kt_tab_get kx_B_left 3 rfl) (kg_B_left_in _ (List.mem_of_getElem? (i := 5) rfl)) <|
  sd_isub (pc := 8) (kt_tab_get kx_B_left 4 rfl) <|
  sd_iret (pc := 9) rfl (by decide) (kt_tab_get kx_B_left 5 rfl)
noncomputable def kf_B_left : kt_F := kt_run 1 kd_B_left_0
theorem km_B_left : kt_M l kt_shC ky_B_left kb_B_left 1 (some .int) 0 true kf_B_left := kt_method (by decide) rfl kz_B_left_0
noncomputable def kd_B_room_0 : kt_D := ki_aload 0 <| ki_get kt_shC 0 0 <| ki_alen kt_shC <| ki_aload 0 <| ki_get kt_shC 0 2 <| ki_isub <| ki_iret
theorem kz_B_room_0 : kt_Snd l kt_shC kb_B_room 1 RX0 (some .int) 0 0 0 true true 0 kd_B_room_0 :=
  sd_aload_n (pc := 0) (kt_tab_get kx_B_room 0 rfl) rfl <|
  sd_get (pc := 1) (k := 0) (ci := 0) kt_hc0 kt_hin0 (by decide) (kt_tab_get kx_B_room 1 rfl) (kg_B_room_in _ (List.mem_of_getElem? (i := 4) rfl)) <|
  sd_alen (pc := 4) (kt_tab_get kx_B_room 2 rfl) <|
  sd_aload_n (pc := 5) (kt_tab_get kx_B_room 3 rfl) rfl <|
  sd_get (pc := 6) (k := 2) (ci := 0) kt_hc0 kt_hin0 (by decide) (kt_tab_get kx_B_room 4 rfl) (kg_B_room_in _ (List.mem_of_getElem? (i := 5) rfl)) <|
  sd_isub (pc := 9) (kt_tab_get kx_B_room 5 rfl) <|
  sd_iret (pc := 10) rfl (by decide) (kt_tab_get kx_B_room 6 rfl)
noncomputable def kf_B_room : kt_F := kt_run 1 kd_B_room_0
theorem km_B_room : kt_M l kt_shC ky_B_room kb_B_room 1 (some .int) 0 true kf_B_room := kt_method (by decide) rfl kz_B_room_0
noncomputable def kd_B_removeFirst_18 : kt_D := ki_push (.int 0) <| ki_iret
theorem kz_B_removeFirst_18 : kt_Snd l kt_shC kb_B_removeFirst 1 RX0 (some .int) 0 0 0 false false 18 kd_B_removeFirst_18 :=
  sd_iconst (pc := 18) (kt_tab_get kx_B_removeFirst 8 rfl) kc_i_0 <|
  sd_iret (pc := 19) rfl (by decide) (kt_tab_get kx_B_removeFirst 9 rfl)
noncomputable def kd_B_removeFirst_20 : kt_D := ki_aload 0 <| ki_dup <| ki_get kt_shC 0 1 <| ki_push (.int 1) <| ki_iadd <| ki_put kt_shC 0 1 0 <| ki_aload 0 <| ki_get kt_shC 0 0 <| ki_aload 0 <| ki_get kt_shC 0 1 <| ki_push (.int 1) <| ki_isub <| ki_iald kt_shC <| ki_iret
theorem kz_B_removeFirst_20 : kt_Snd l kt_shC kb_B_removeFirst 1 RX0 (some .int) 0 0 0 false false 20 kd_B_removeFirst_20 :=
  sd_aload_n (pc := 20) (kt_tab_get kx_B_removeFirst 10 rfl) rfl <|
  sd_dup (pc := 21) (kt_tab_get kx_B_removeFirst 11 rfl) <|
  sd_get (pc := 22) (k := 1) (ci := 0) kt_hc0 kt_hin0 (by decide) (kt_tab_get kx_B_removeFirst 12 rfl) (kg_B_removeFirst_in _ (List.mem_of_getElem? (i := 4) rfl)) <|
  sd_iconst (pc := 25) (kt_tab_get kx_B_removeFirst 13 rfl) kc_i_1 <|
  sd_iadd (pc := 26) (kt_tab_get kx_B_removeFirst 14 rfl) <|
  sd_put (pc := 27) (k := 1) (ci := 0) kt_hc0 kt_hin0 tyX0_ok nmX0 (by decide) rfl rfl (Or.inl ⟨rfl, rfl⟩) (kt_tab_get kx_B_removeFirst 15 rfl) (kg_B_removeFirst_in _ (List.mem_of_getElem? (i := 4) rfl)) <|
  sd_aload_n (pc := 30) (kt_tab_get kx_B_removeFirst 16 rfl) rfl <|
  sd_get (pc := 31) (k := 0) (ci := 0) kt_hc0 kt_hin0 (by decide) (kt_tab_get kx_B_removeFirst 17 rfl) (kg_B_removeFirst_in _ (List.mem_of_getElem? (i := 5) rfl)) <|
  sd_aload_n (pc := 34) (kt_tab_get kx_B_removeFirst 18 rfl) rfl <|
  sd_get (pc := 35) (k := 1) (ci := 0) kt_hc0 kt_hin0 (by decide) (kt_tab_get kx_B_removeFirst 19 rfl) (kg_B_removeFirst_in _ (List.mem_of_getElem? (i := 4) rfl)) <|
  sd_iconst (pc := 38) (kt_tab_get kx_B_removeFirst 20 rfl) kc_i_1 <|
  sd_isub (pc := 39) (kt_tab_get kx_B_removeFirst 21 rfl) <|
  sd_iald (pc := 40) (kt_tab_get kx_B_removeFirst 22 rfl) <|
  sd_iret (pc := 41) rfl (by decide) (kt_tab_get kx_B_removeFirst 23 rfl)
noncomputable def kd_B_removeFirst_7 : kt_D := ki_aload 0 <| ki_get kt_shC 0 1 <| ki_aload 0 <| ki_get kt_shC 0 2 <| ki_icmp_lt kd_B_removeFirst_20 (ki_drop 0 kd_B_removeFirst_18)
theorem kz_B_removeFirst_7 : kt_Snd l kt_shC kb_B_removeFirst 1 RX0 (some .int) 0 0 0 false false 7 kd_B_removeFirst_7 :=
  sd_aload_n (pc := 7) (kt_tab_get kx_B_removeFirst 3 rfl) rfl <|
  sd_get (pc := 8) (k := 1) (ci := 0) kt_hc0 kt_hin0 (by decide) (kt_tab_get kx_B_removeFirst 4 rfl) (kg_B_removeFirst_in _ (List.mem_of_getElem? (i := 4) rfl)) <|
  sd_aload_n (pc := 11) (kt_tab_get kx_B_removeFirst 5 rfl) rfl <|
  sd_get (pc := 12) (k := 2) (ci := 0) kt_hc0 kt_hin0 (by decide) (kt_tab_get kx_B_removeFirst 6 rfl) (kg_B_removeFirst_in _ (List.mem_of_getElem? (i := 6) rfl)) <|
  sd_icmp_lt (pc := 15) (tgt := 20) (kt_tab_get kx_B_removeFirst 7 rfl) rfl kz_B_removeFirst_20 (sd_drop (k := 0) kz_B_removeFirst_18)
noncomputable def kd_B_removeFirst_0 : kt_D := ki_aload 0 <| ki_get kt_shC 0 1 <| ki_if_lt (ki_drop 0 kd_B_removeFirst_18) kd_B_removeFirst_7
theorem kz_B_removeFirst_0 : kt_Snd l kt_shC kb_B_removeFirst 1 RX0 (some .int) 0 0 0 false false 0 kd_B_removeFirst_0 :=
  sd_aload_n (pc := 0) (kt_tab_get kx_B_removeFirst 0 rfl) rfl <|
  sd_get (pc := 1) (k := 1) (ci := 0) kt_hc0 kt_hin0 (by decide) (kt_tab_get kx_B_removeFirst 1 rfl) (kg_B_removeFirst_in _ (List.mem_of_getElem? (i := 4) rfl)) <|
  sd_if_lt (pc := 4) (tgt := 18) (kt_tab_get kx_B_removeFirst 2 rfl) rfl (sd_drop (k := 0) kz_B_removeFirst_18) kz_B_removeFirst_7
noncomputable def kf_B_removeFirst : kt_F := kt_run 1 kd_B_removeFirst_0
theorem km_B_removeFirst : kt_M l kt_shC ky_B_removeFirst kb_B_removeFirst 1 (some .int) 0 false kf_B_removeFirst := kt_method (by decide) rfl kz_B_removeFirst_0
noncomputable def kd_B_add_43 : kt_D := ki_vret
theorem kz_B_add_43 : kt_Snd l kt_shC kb_B_add 2 RX0 none 0 0 0 false false 43 kd_B_add_43 :=
  sd_vret (pc := 43) rfl (by decide) (kt_tab_get kx_B_add 23 rfl)
noncomputable def kd_B_add_19 : kt_D := ki_aload 0 <| ki_get kt_shC 0 0 <| ki_aload 0 <| ki_get kt_shC 0 2 <| ki_iload 1 <| ki_push (.int 255) <| ki_iand <| ki_iast kt_shC <| ki_aload 0 <| ki_dup <| ki_get kt_shC 0 2 <| ki_push (.int 1) <| ki_iadd <| ki_put kt_shC 0 2 0 <| (ki_drop 1 (ki_drop 0 kd_B_add_43))
theorem kz_B_add_19 : kt_Snd l kt_shC kb_B_add 2 RX0 none 0 0 0 false false 19 kd_B_add_19 :=
  sd_aload_n (pc := 19) (kt_tab_get kx_B_add 9 rfl) rfl <|
  sd_get (pc := 20) (k := 0) (ci := 0) kt_hc0 kt_hin0 (by decide) (kt_tab_get kx_B_add 10 rfl) (kg_B_add_in _ (List.mem_of_getElem? (i := 4) rfl)) <|
  sd_aload_n (pc := 23) (kt_tab_get kx_B_add 11 rfl) rfl <|
  sd_get (pc := 24) (k := 2) (ci := 0) kt_hc0 kt_hin0 (by decide) (kt_tab_get kx_B_add 12 rfl) (kg_B_add_in _ (List.mem_of_getElem? (i := 5) rfl)) <|
  sd_iload_n (pc := 27) (kt_tab_get kx_B_add 13 rfl) rfl <|
  sd_sipush (pc := 28) (kt_tab_get kx_B_add 14 rfl) kc_s_255 <|
  sd_iand (pc := 31) (kt_tab_get kx_B_add 15 rfl) <|
  sd_iast (pc := 32) (kt_tab_get kx_B_add 16 rfl) <|
  sd_aload_n (pc := 33) (kt_tab_get kx_B_add 17 rfl) rfl <|
  sd_dup (pc := 34) (kt_tab_get kx_B_add 18 rfl) <|
  sd_get (pc := 35) (k := 2) (ci := 0) kt_hc0 kt_hin0 (by decide) (kt_tab_get kx_B_add 19 rfl) (kg_B_add_in _ (List.mem_of_getElem? (i := 5) rfl)) <|
  sd_iconst (pc := 38) (kt_tab_get kx_B_add 20 rfl) kc_i_1 <|
  sd_iadd (pc := 39) (kt_tab_get kx_B_add 21 rfl) <|
  sd_put (pc := 40) (k := 2) (ci := 0) kt_hc0 kt_hin0 tyX0_ok nmX0 (by decide) rfl rfl (Or.inl ⟨rfl, rfl⟩) (kt_tab_get kx_B_add 22 rfl) (kg_B_add_in _ (List.mem_of_getElem? (i := 5) rfl)) <|
  (sd_drop (k := 1) (sd_drop (k := 0) kz_B_add_43))
noncomputable def kd_B_add_7 : kt_D := ki_aload 0 <| ki_get kt_shC 0 2 <| ki_aload 0 <| ki_get kt_shC 0 0 <| ki_alen kt_shC <| ki_icmp_ge (ki_drop 1 (ki_drop 0 kd_B_add_43)) kd_B_add_19
theorem kz_B_add_7 : kt_Snd l kt_shC kb_B_add 2 RX0 none 0 0 0 false false 7 kd_B_add_7 :=
  sd_aload_n (pc := 7) (kt_tab_get kx_B_add 3 rfl) rfl <|
  sd_get (pc := 8) (k := 2) (ci := 0) kt_hc0 kt_hin0 (by decide) (kt_tab_get kx_B_add 4 rfl) (kg_B_add_in _ (List.mem_of_getElem? (i := 5) rfl)) <|
  sd_aload_n (pc := 11) (kt_tab_get kx_B_add 5 rfl) rfl <|
  sd_get (pc := 12) (k := 0) (ci := 0) kt_hc0 kt_hin0 (by decide) (kt_tab_get kx_B_add 6 rfl) (kg_B_add_in _ (List.mem_of_getElem? (i := 4) rfl)) <|
  sd_alen (pc := 15) (kt_tab_get kx_B_add 7 rfl) <|
  sd_icmp_ge (pc := 16) (tgt := 43) (kt_tab_get kx_B_add 8 rfl) rfl (sd_drop (k := 1) (sd_drop (k := 0) kz_B_add_43)) kz_B_add_19
noncomputable def kd_B_add_0 : kt_D := ki_aload 0 <| ki_get kt_shC 0 2 <| ki_if_lt (ki_drop 1 (ki_drop 0 kd_B_add_43)) kd_B_add_7
theorem kz_B_add_0 : kt_Snd l kt_shC kb_B_add 2 RX0 none 0 0 0 false false 0 kd_B_add_0 :=
  sd_aload_n (pc := 0) (kt_tab_get kx_B_add 0 rfl) rfl <|
  sd_get (pc := 1) (k := 2) (ci := 0) kt_hc0 kt_hin0 (by decide) (kt_tab_get kx_B_add 1 rfl) (kg_B_add_in _ (List.mem_of_getElem? (i := 5) rfl)) <|
  sd_if_lt (pc := 4) (tgt := 43) (kt_tab_get kx_B_add 2 rfl) rfl (sd_drop (k := 1) (sd_drop (k := 0) kz_B_add_43)) kz_B_add_7
noncomputable def kf_B_add : kt_F := kt_run 2 kd_B_add_0
theorem km_B_add : kt_M l kt_shC ky_B_add kb_B_add 2 none 0 false kf_B_add := kt_method (by decide) rfl kz_B_add_0
noncomputable def kd_B_widthOf_32 : kt_D := ki_iret
theorem kz_B_widthOf_32 : kt_Snd l kt_shC kb_B_widthOf 1 RX0 (some .int) 0 0 0 true true 32 kd_B_widthOf_32 :=
  sd_iret (pc := 32) rfl (by decide) (kt_tab_get kx_B_widthOf 16 rfl)
noncomputable def kd_B_widthOf_31 : kt_D := ki_push (.int 4) <| kd_B_widthOf_32
theorem kz_B_widthOf_31 : kt_Snd l kt_shC kb_B_widthOf 1 RX0 (some .int) 0 0 0 true true 31 kd_B_widthOf_31 :=
  sd_iconst (pc := 31) (kt_tab_get kx_B_widthOf 15 rfl) kc_i_4 <|
  kz_B_widthOf_32
noncomputable def kd_B_widthOf_27 : kt_D := ki_push (.int 2) <| kd_B_widthOf_32
theorem kz_B_widthOf_27 : kt_Snd l kt_shC kb_B_widthOf 1 RX0 (some .int) 0 0 0 true true 27 kd_B_widthOf_27 :=
  sd_iconst (pc := 27) (kt_tab_get kx_B_widthOf 13 rfl) kc_i_2 <|
  sd_goto (pc := 28) (tgt := 32) (kt_tab_get kx_B_widthOf 14 rfl) rfl kz_B_widthOf_32
noncomputable def kd_B_widthOf_21 : kt_D := ki_iload 0 <| ki_push (.int 65536) <| ki_icmp_ge (ki_drop 0 kd_B_widthOf_31) (ki_drop 0 kd_B_widthOf_27)
theorem kz_B_widthOf_21 : kt_Snd l kt_shC kb_B_widthOf 1 RX0 (some .int) 0 0 0 true true 21 kd_B_widthOf_21 :=
  sd_iload_n (pc := 21) (kt_tab_get kx_B_widthOf 10 rfl) rfl <|
  sd_ldc (pc := 22) (kt_tab_get kx_B_widthOf 11 rfl) (kg_B_widthOf_in _ (List.mem_of_getElem? (i := 3) rfl)) <|
  sd_icmp_ge (pc := 24) (tgt := 31) (kt_tab_get kx_B_widthOf 12 rfl) rfl (sd_drop (k := 0) kz_B_widthOf_31) (sd_drop (k := 0) kz_B_widthOf_27)
noncomputable def kd_B_widthOf_17 : kt_D := ki_push (.int 1) <| kd_B_widthOf_32
theorem kz_B_widthOf_17 : kt_Snd l kt_shC kb_B_widthOf 1 RX0 (some .int) 0 0 0 true true 17 kd_B_widthOf_17 :=
  sd_iconst (pc := 17) (kt_tab_get kx_B_widthOf 8 rfl) kc_i_1 <|
  sd_goto (pc := 18) (tgt := 32) (kt_tab_get kx_B_widthOf 9 rfl) rfl kz_B_widthOf_32
noncomputable def kd_B_widthOf_10 : kt_D := ki_iload 0 <| ki_push (.int 256) <| ki_icmp_ge kd_B_widthOf_21 (ki_drop 0 kd_B_widthOf_17)
theorem kz_B_widthOf_10 : kt_Snd l kt_shC kb_B_widthOf 1 RX0 (some .int) 0 0 0 true true 10 kd_B_widthOf_10 :=
  sd_iload_n (pc := 10) (kt_tab_get kx_B_widthOf 5 rfl) rfl <|
  sd_sipush (pc := 11) (kt_tab_get kx_B_widthOf 6 rfl) kc_s_256 <|
  sd_icmp_ge (pc := 14) (tgt := 21) (kt_tab_get kx_B_widthOf 7 rfl) rfl kz_B_widthOf_21 (sd_drop (k := 0) kz_B_widthOf_17)
noncomputable def kd_B_widthOf_6 : kt_D := ki_push (.int 0) <| kd_B_widthOf_32
theorem kz_B_widthOf_6 : kt_Snd l kt_shC kb_B_widthOf 1 RX0 (some .int) 0 0 0 true true 6 kd_B_widthOf_6 :=
  sd_iconst (pc := 6) (kt_tab_get kx_B_widthOf 3 rfl) kc_i_0 <|
  sd_goto (pc := 7) (tgt := 32) (kt_tab_get kx_B_widthOf 4 rfl) rfl kz_B_widthOf_32
noncomputable def kd_B_widthOf_0 : kt_D := ki_iload 0 <| ki_push (.int 24) <| ki_icmp_ge kd_B_widthOf_10 (ki_drop 0 kd_B_widthOf_6)
theorem kz_B_widthOf_0 : kt_Snd l kt_shC kb_B_widthOf 1 RX0 (some .int) 0 0 0 true true 0 kd_B_widthOf_0 :=
  sd_iload_n (pc := 0) (kt_tab_get kx_B_widthOf 0 rfl) rfl <|
  sd_bipush (pc := 1) (kt_tab_get kx_B_widthOf 1 rfl) kc_b_24 <|
  sd_icmp_ge (pc := 3) (tgt := 10) (kt_tab_get kx_B_widthOf 2 rfl) rfl kz_B_widthOf_10 (sd_drop (k := 0) kz_B_widthOf_6)
noncomputable def kf_B_widthOf : kt_F := kt_run 1 kd_B_widthOf_0
theorem km_B_widthOf : kt_M l kt_shC ky_B_widthOf kb_B_widthOf 1 (some .int) 0 true kf_B_widthOf := kt_method (by decide) rfl kz_B_widthOf_0
noncomputable def kd_B_addHead_71 : kt_D := ki_vret
theorem kz_B_addHead_71 : kt_Snd l kt_shC kb_B_addHead 5 RX0 none 1 0 0 false false 71 kd_B_addHead_71 :=
  sd_vret (pc := 71) rfl (by decide) (kt_tab_get kx_B_addHead 39 rfl)
noncomputable def kd_B_addHead_54 (kh_49 : kt_D) : kt_D := ki_aload 0 <| ki_iload 2 <| ki_push (.int 8) <| ki_iload 4 <| ki_imul <| ki_ishr <| ki_callV kt_shC 0 1 kf_B_add <| ki_iinc 4 (-1) <| kh_49
theorem kz_B_addHead_54 {kh_49 : kt_D} (zh_49 : kt_Snd l kt_shC kb_B_addHead 5 RX0 none 1 0 0 false false 49 kh_49) : kt_Snd l kt_shC kb_B_addHead 5 RX0 none 1 0 0 false false 54 (kd_B_addHead_54 kh_49) :=
  sd_aload_n (pc := 54) (kt_tab_get kx_B_addHead 30 rfl) rfl <|
  sd_iload_n (pc := 55) (kt_tab_get kx_B_addHead 31 rfl) rfl <|
  sd_bipush (pc := 56) (kt_tab_get kx_B_addHead 32 rfl) kc_b_8 <|
  sd_iload (pc := 58) (kt_tab_get kx_B_addHead 33 rfl) <|
  sd_imul (pc := 60) (kt_tab_get kx_B_addHead 34 rfl) <|
  sd_ishr (pc := 61) (kt_tab_get kx_B_addHead 35 rfl) <|
  sd_callV (pc := 62) km_B_add (by decide) kv_B_add (ci := 0) kt_hc0 (by decide) (kt_tab_get kx_B_addHead 36 rfl) (kg_B_addHead_in _ (List.mem_of_getElem? (i := 4) rfl)) <|
  sd_iinc (pc := 65) (kt_tab_get kx_B_addHead 37 rfl) kc_i_m1 (by decide) <|
  sd_goto (pc := 68) (tgt := 49) (kt_tab_get kx_B_addHead 38 rfl) rfl zh_49
noncomputable def kd_B_addHead_49b (kh_49 : kt_D) : kt_D := ki_iload 4 <| ki_if_lt (ki_drop 4 (ki_drop 2 (ki_drop 0 kd_B_addHead_71))) (kd_B_addHead_54 kh_49)
theorem kz_B_addHead_49b {kh_49 : kt_D} (zh_49 : kt_Snd l kt_shC kb_B_addHead 5 RX0 none 1 0 0 false false 49 kh_49) : kt_Snd l kt_shC kb_B_addHead 5 RX0 none 1 0 0 false false 49 (kd_B_addHead_49b kh_49) :=
  sd_iload (pc := 49) (kt_tab_get kx_B_addHead 28 rfl) <|
  sd_if_lt (pc := 51) (tgt := 71) (kt_tab_get kx_B_addHead 29 rfl) rfl (sd_drop (k := 4) (sd_drop (k := 2) (sd_drop (k := 0) kz_B_addHead_71))) (kz_B_addHead_54 zh_49)
noncomputable def kd_B_addHead_49 (n : Nat) : kt_D := Nat.rec (fun _ _ _ => none) (fun _ ih => kd_B_addHead_49b ih) n
theorem kz_B_addHead_49 (n : Nat) : kt_Snd l kt_shC kb_B_addHead 5 RX0 none 1 0 0 false false 49 (kd_B_addHead_49 n) := by
  induction n with
  | zero => exact sd_fail
  | succ n ih => exact kz_B_addHead_49b ih
noncomputable def kd_B_addHead_40 : kt_D := ki_iadd <| ki_callV kt_shC 0 1 kf_B_add <| ki_iload 3 <| ki_push (.int 1) <| ki_isub <| ki_istore 4 <| (ki_drop 3 (kd_B_addHead_49 100))
theorem kz_B_addHead_40 : kt_Snd l kt_shC kb_B_addHead 5 RX0 none 1 0 0 false false 40 kd_B_addHead_40 :=
  sd_iadd (pc := 40) (kt_tab_get kx_B_addHead 22 rfl) <|
  sd_callV (pc := 41) km_B_add (by decide) kv_B_add (ci := 0) kt_hc0 (by decide) (kt_tab_get kx_B_addHead 23 rfl) (kg_B_addHead_in _ (List.mem_of_getElem? (i := 4) rfl)) <|
  sd_iload_n (pc := 44) (kt_tab_get kx_B_addHead 24 rfl) rfl <|
  sd_iconst (pc := 45) (kt_tab_get kx_B_addHead 25 rfl) kc_i_1 <|
  sd_isub (pc := 46) (kt_tab_get kx_B_addHead 26 rfl) <|
  sd_istore (pc := 47) (kt_tab_get kx_B_addHead 27 rfl) (by decide) <|
  (sd_drop (k := 3) (kz_B_addHead_49 100))
noncomputable def kd_B_addHead_38 : kt_D := ki_push (.int 26) <| kd_B_addHead_40
theorem kz_B_addHead_38 : kt_Snd l kt_shC kb_B_addHead 5 RX0 none 1 0 0 false false 38 kd_B_addHead_38 :=
  sd_bipush (pc := 38) (kt_tab_get kx_B_addHead 21 rfl) kc_b_26 <|
  kz_B_addHead_40
noncomputable def kd_B_addHead_33 : kt_D := ki_push (.int 25) <| kd_B_addHead_40
theorem kz_B_addHead_33 : kt_Snd l kt_shC kb_B_addHead 5 RX0 none 1 0 0 false false 33 kd_B_addHead_33 :=
  sd_bipush (pc := 33) (kt_tab_get kx_B_addHead 19 rfl) kc_b_25 <|
  sd_goto (pc := 35) (tgt := 40) (kt_tab_get kx_B_addHead 20 rfl) rfl kz_B_addHead_40
noncomputable def kd_B_addHead_28 : kt_D := ki_iload 3 <| ki_push (.int 2) <| ki_icmp_ne kd_B_addHead_38 kd_B_addHead_33
theorem kz_B_addHead_28 : kt_Snd l kt_shC kb_B_addHead 5 RX0 none 1 0 0 false false 28 kd_B_addHead_28 :=
  sd_iload_n (pc := 28) (kt_tab_get kx_B_addHead 16 rfl) rfl <|
  sd_iconst (pc := 29) (kt_tab_get kx_B_addHead 17 rfl) kc_i_2 <|
  sd_icmp_ne (pc := 30) (tgt := 38) (kt_tab_get kx_B_addHead 18 rfl) rfl kz_B_addHead_38 kz_B_addHead_33
noncomputable def kd_B_addHead_23 : kt_D := ki_push (.int 24) <| kd_B_addHead_40
theorem kz_B_addHead_23 : kt_Snd l kt_shC kb_B_addHead 5 RX0 none 1 0 0 false false 23 kd_B_addHead_23 :=
  sd_bipush (pc := 23) (kt_tab_get kx_B_addHead 14 rfl) kc_b_24 <|
  sd_goto (pc := 25) (tgt := 40) (kt_tab_get kx_B_addHead 15 rfl) rfl kz_B_addHead_40
noncomputable def kd_B_addHead_18 : kt_D := ki_iload 3 <| ki_push (.int 1) <| ki_icmp_ne kd_B_addHead_28 kd_B_addHead_23
theorem kz_B_addHead_18 : kt_Snd l kt_shC kb_B_addHead 5 RX0 none 1 0 0 false false 18 kd_B_addHead_18 :=
  sd_iload_n (pc := 18) (kt_tab_get kx_B_addHead 11 rfl) rfl <|
  sd_iconst (pc := 19) (kt_tab_get kx_B_addHead 12 rfl) kc_i_1 <|
  sd_icmp_ne (pc := 20) (tgt := 28) (kt_tab_get kx_B_addHead 13 rfl) rfl kz_B_addHead_28 kz_B_addHead_23
noncomputable def kd_B_addHead_14 : kt_D := ki_iload 2 <| kd_B_addHead_40
theorem kz_B_addHead_14 : kt_Snd l kt_shC kb_B_addHead 5 RX0 none 1 0 0 false false 14 kd_B_addHead_14 :=
  sd_iload_n (pc := 14) (kt_tab_get kx_B_addHead 9 rfl) rfl <|
  sd_goto (pc := 15) (tgt := 40) (kt_tab_get kx_B_addHead 10 rfl) rfl kz_B_addHead_40
noncomputable def kd_B_addHead_0 : kt_D := ki_iload 2 <| ki_callS 1 kf_B_widthOf <| ki_istore 3 <| ki_aload 0 <| ki_push (.int 32) <| ki_iload 1 <| ki_imul <| ki_iload 3 <| ki_if_ne (ki_drop 1 kd_B_addHead_18) (ki_drop 1 kd_B_addHead_14)
theorem kz_B_addHead_0 : kt_Snd l kt_shC kb_B_addHead 5 RX0 none 1 0 0 false false 0 kd_B_addHead_0 :=
  sd_iload_n (pc := 0) (kt_tab_get kx_B_addHead 0 rfl) rfl <|
  sd_callS (pc := 1) km_B_widthOf (by decide) kv_B_widthOf (by decide) (kt_tab_get kx_B_addHead 1 rfl) (kg_B_addHead_in _ (List.mem_of_getElem? (i := 5) rfl)) <|
  sd_istore_n (pc := 4) (kt_tab_get kx_B_addHead 2 rfl) rfl (by decide) <|
  sd_aload_n (pc := 5) (kt_tab_get kx_B_addHead 3 rfl) rfl <|
  sd_bipush (pc := 6) (kt_tab_get kx_B_addHead 4 rfl) kc_b_32 <|
  sd_iload_n (pc := 8) (kt_tab_get kx_B_addHead 5 rfl) rfl <|
  sd_imul (pc := 9) (kt_tab_get kx_B_addHead 6 rfl) <|
  sd_iload_n (pc := 10) (kt_tab_get kx_B_addHead 7 rfl) rfl <|
  sd_if_ne (pc := 11) (tgt := 18) (kt_tab_get kx_B_addHead 8 rfl) rfl (sd_drop (k := 1) kz_B_addHead_18) (sd_drop (k := 1) kz_B_addHead_14)
noncomputable def kf_B_addHead : kt_F := kt_run 5 kd_B_addHead_0
theorem km_B_addHead : kt_M l kt_shC ky_B_addHead kb_B_addHead 5 none 1 false kf_B_addHead := kt_method (by decide) rfl kz_B_addHead_0
noncomputable def kd_B_addPair_0 : kt_D := ki_aload 0 <| ki_push (.int 0) <| ki_iload 1 <| ki_callV kt_shC 0 2 kf_B_addHead <| ki_aload 0 <| ki_push (.int 0) <| ki_iload 2 <| ki_callV kt_shC 0 2 kf_B_addHead <| ki_vret
theorem kz_B_addPair_0 : kt_Snd l kt_shC kb_B_addPair 3 RX0 none 2 0 0 false false 0 kd_B_addPair_0 :=
  sd_aload_n (pc := 0) (kt_tab_get kx_B_addPair 0 rfl) rfl <|
  sd_iconst (pc := 1) (kt_tab_get kx_B_addPair 1 rfl) kc_i_0 <|
  sd_iload_n (pc := 2) (kt_tab_get kx_B_addPair 2 rfl) rfl <|
  sd_callV (pc := 3) km_B_addHead (by decide) kv_B_addHead (ci := 0) kt_hc0 (by decide) (kt_tab_get kx_B_addPair 3 rfl) (kg_B_addPair_in _ (List.mem_of_getElem? (i := 4) rfl)) <|
  sd_aload_n (pc := 6) (kt_tab_get kx_B_addPair 4 rfl) rfl <|
  sd_iconst (pc := 7) (kt_tab_get kx_B_addPair 5 rfl) kc_i_0 <|
  sd_iload_n (pc := 8) (kt_tab_get kx_B_addPair 6 rfl) rfl <|
  sd_callV (pc := 9) km_B_addHead (by decide) kv_B_addHead (ci := 0) kt_hc0 (by decide) (kt_tab_get kx_B_addPair 7 rfl) (kg_B_addPair_in _ (List.mem_of_getElem? (i := 4) rfl)) <|
  sd_vret (pc := 12) rfl (by decide) (kt_tab_get kx_B_addPair 8 rfl)
noncomputable def kf_B_addPair : kt_F := kt_run 3 kd_B_addPair_0
theorem km_B_addPair : kt_M l kt_shC ky_B_addPair kb_B_addPair 3 none 2 false kf_B_addPair := kt_method (by decide) rfl kz_B_addPair_0
end
section
variable {l : Launch}
noncomputable def kd_P_find_34 : kt_D := ki_push (.int (-1)) <| ki_iret
theorem kz_P_find_34 : kt_Snd l kt_shC kb_P_find 3 RX1 (some .int) 0 0 0 true true 34 kd_P_find_34 :=
  sd_iconst (pc := 34) (kt_tab_get kx_P_find 19 rfl) kc_i_m1 <|
  sd_iret (pc := 35) rfl (by decide) (kt_tab_get kx_P_find 20 rfl)
noncomputable def kd_P_find_28 (kh_2 : kt_D) : kt_D := ki_iinc 2 1 <| kh_2
theorem kz_P_find_28 {kh_2 : kt_D} (zh_2 : kt_Snd l kt_shC kb_P_find 3 RX1 (some .int) 0 0 0 true true 2 kh_2) : kt_Snd l kt_shC kb_P_find 3 RX1 (some .int) 0 0 0 true true 28 (kd_P_find_28 kh_2) :=
  sd_iinc (pc := 28) (kt_tab_get kx_P_find 17 rfl) kc_i_1 (by decide) <|
  sd_goto (pc := 31) (tgt := 2) (kt_tab_get kx_P_find 18 rfl) rfl zh_2
noncomputable def kd_P_find_26 : kt_D := ki_iload 2 <| ki_iret
theorem kz_P_find_26 : kt_Snd l kt_shC kb_P_find 3 RX1 (some .int) 0 0 0 true true 26 kd_P_find_26 :=
  sd_iload_n (pc := 26) (kt_tab_get kx_P_find 15 rfl) rfl <|
  sd_iret (pc := 27) rfl (by decide) (kt_tab_get kx_P_find 16 rfl)
noncomputable def kd_P_find_16 (kh_2 : kt_D) : kt_D := ki_aload 0 <| ki_get kt_shC 1 1 <| ki_iload 2 <| ki_iald kt_shC <| ki_iload 1 <| ki_icmp_ne (kd_P_find_28 kh_2) (ki_drop 1 (ki_drop 0 kd_P_find_26))
theorem kz_P_find_16 {kh_2 : kt_D} (zh_2 : kt_Snd l kt_shC kb_P_find 3 RX1 (some .int) 0 0 0 true true 2 kh_2) : kt_Snd l kt_shC kb_P_find 3 RX1 (some .int) 0 0 0 true true 16 (kd_P_find_16 kh_2) :=
  sd_aload_n (pc := 16) (kt_tab_get kx_P_find 9 rfl) rfl <|
  sd_get (pc := 17) (k := 1) (ci := 1) kt_hc1 kt_hin1 (by decide) (kt_tab_get kx_P_find 10 rfl) (kg_P_find_in _ (List.mem_of_getElem? (i := 4) rfl)) <|
  sd_iload_n (pc := 20) (kt_tab_get kx_P_find 11 rfl) rfl <|
  sd_iald (pc := 21) (kt_tab_get kx_P_find 12 rfl) <|
  sd_iload_n (pc := 22) (kt_tab_get kx_P_find 13 rfl) rfl <|
  sd_icmp_ne (pc := 23) (tgt := 28) (kt_tab_get kx_P_find 14 rfl) rfl (kz_P_find_28 zh_2) (sd_drop (k := 1) (sd_drop (k := 0) kz_P_find_26))
noncomputable def kd_P_find_10 (kh_2 : kt_D) : kt_D := ki_iload 2 <| ki_push (.int 6) <| ki_icmp_ge (ki_drop 2 (ki_drop 1 (ki_drop 0 kd_P_find_34))) (kd_P_find_16 kh_2)
theorem kz_P_find_10 {kh_2 : kt_D} (zh_2 : kt_Snd l kt_shC kb_P_find 3 RX1 (some .int) 0 0 0 true true 2 kh_2) : kt_Snd l kt_shC kb_P_find 3 RX1 (some .int) 0 0 0 true true 10 (kd_P_find_10 kh_2) :=
  sd_iload_n (pc := 10) (kt_tab_get kx_P_find 6 rfl) rfl <|
  sd_bipush (pc := 11) (kt_tab_get kx_P_find 7 rfl) kc_b_6 <|
  sd_icmp_ge (pc := 13) (tgt := 34) (kt_tab_get kx_P_find 8 rfl) rfl (sd_drop (k := 2) (sd_drop (k := 1) (sd_drop (k := 0) kz_P_find_34))) (kz_P_find_16 zh_2)
noncomputable def kd_P_find_2b (kh_2 : kt_D) : kt_D := ki_iload 2 <| ki_aload 0 <| ki_get kt_shC 1 4 <| ki_icmp_ge (ki_drop 2 (ki_drop 1 (ki_drop 0 kd_P_find_34))) (kd_P_find_10 kh_2)
theorem kz_P_find_2b {kh_2 : kt_D} (zh_2 : kt_Snd l kt_shC kb_P_find 3 RX1 (some .int) 0 0 0 true true 2 kh_2) : kt_Snd l kt_shC kb_P_find 3 RX1 (some .int) 0 0 0 true true 2 (kd_P_find_2b kh_2) :=
  sd_iload_n (pc := 2) (kt_tab_get kx_P_find 2 rfl) rfl <|
  sd_aload_n (pc := 3) (kt_tab_get kx_P_find 3 rfl) rfl <|
  sd_get (pc := 4) (k := 4) (ci := 1) kt_hc1 kt_hin1 (by decide) (kt_tab_get kx_P_find 4 rfl) (kg_P_find_in _ (List.mem_of_getElem? (i := 5) rfl)) <|
  sd_icmp_ge (pc := 7) (tgt := 34) (kt_tab_get kx_P_find 5 rfl) rfl (sd_drop (k := 2) (sd_drop (k := 1) (sd_drop (k := 0) kz_P_find_34))) (kz_P_find_10 zh_2)
noncomputable def kd_P_find_2 (n : Nat) : kt_D := Nat.rec (fun _ _ _ => none) (fun _ ih => kd_P_find_2b ih) n
theorem kz_P_find_2 (n : Nat) : kt_Snd l kt_shC kb_P_find 3 RX1 (some .int) 0 0 0 true true 2 (kd_P_find_2 n) := by
  induction n with
  | zero => exact sd_fail
  | succ n ih => exact kz_P_find_2b ih
noncomputable def kd_P_find_0 : kt_D := ki_push (.int 0) <| ki_istore 2 <| (kd_P_find_2 100)
theorem kz_P_find_0 : kt_Snd l kt_shC kb_P_find 3 RX1 (some .int) 0 0 0 true true 0 kd_P_find_0 :=
  sd_iconst (pc := 0) (kt_tab_get kx_P_find 0 rfl) kc_i_0 <|
  sd_istore_n (pc := 1) (kt_tab_get kx_P_find 1 rfl) rfl (by decide) <|
  (kz_P_find_2 100)
noncomputable def kf_P_find : kt_F := kt_run 3 kd_P_find_0
theorem km_P_find : kt_M l kt_shC ky_P_find kb_P_find 3 (some .int) 0 true kf_P_find := kt_method (by decide) rfl kz_P_find_0
noncomputable def kd_P_register_23 : kt_D := ki_aload 0 <| ki_get kt_shC 1 1 <| ki_aload 0 <| ki_get kt_shC 1 4 <| ki_iload 1 <| ki_iast kt_shC <| ki_aload 0 <| ki_get kt_shC 1 2 <| ki_aload 0 <| ki_get kt_shC 1 4 <| ki_aload 0 <| ki_get kt_shC 1 6 <| ki_iast kt_shC <| ki_aload 0 <| ki_get kt_shC 1 3 <| ki_aload 0 <| ki_get kt_shC 1 4 <| ki_iload 2 <| ki_iast kt_shC <| ki_aload 0 <| ki_dup <| ki_get kt_shC 1 4 <| ki_push (.int 1) <| ki_iadd <| ki_put kt_shC 1 4 0 <| ki_push (.int 0) <| ki_iret
theorem kz_P_register_23 : kt_Snd l kt_shC kb_P_register 3 RX1 (some .int) 1 0 0 false false 23 kd_P_register_23 :=
  sd_aload_n (pc := 23) (kt_tab_get kx_P_register 12 rfl) rfl <|
  sd_get (pc := 24) (k := 1) (ci := 1) kt_hc1 kt_hin1 (by decide) (kt_tab_get kx_P_register 13 rfl) (kg_P_register_in _ (List.mem_of_getElem? (i := 4) rfl)) <|
  sd_aload_n (pc := 27) (kt_tab_get kx_P_register 14 rfl) rfl <|
  sd_get (pc := 28) (k := 4) (ci := 1) kt_hc1 kt_hin1 (by decide) (kt_tab_get kx_P_register 15 rfl) (kg_P_register_in _ (List.mem_of_getElem? (i := 5) rfl)) <|
  sd_iload_n (pc := 31) (kt_tab_get kx_P_register 16 rfl) rfl <|
  sd_iast (pc := 32) (kt_tab_get kx_P_register 17 rfl) <|
  sd_aload_n (pc := 33) (kt_tab_get kx_P_register 18 rfl) rfl <|
  sd_get (pc := 34) (k := 2) (ci := 1) kt_hc1 kt_hin1 (by decide) (kt_tab_get kx_P_register 19 rfl) (kg_P_register_in _ (List.mem_of_getElem? (i := 6) rfl)) <|
  sd_aload_n (pc := 37) (kt_tab_get kx_P_register 20 rfl) rfl <|
  sd_get (pc := 38) (k := 4) (ci := 1) kt_hc1 kt_hin1 (by decide) (kt_tab_get kx_P_register 21 rfl) (kg_P_register_in _ (List.mem_of_getElem? (i := 5) rfl)) <|
  sd_aload_n (pc := 41) (kt_tab_get kx_P_register 22 rfl) rfl <|
  sd_get (pc := 42) (k := 6) (ci := 1) kt_hc1 kt_hin1 (by decide) (kt_tab_get kx_P_register 23 rfl) (kg_P_register_in _ (List.mem_of_getElem? (i := 7) rfl)) <|
  sd_iast (pc := 45) (kt_tab_get kx_P_register 24 rfl) <|
  sd_aload_n (pc := 46) (kt_tab_get kx_P_register 25 rfl) rfl <|
  sd_get (pc := 47) (k := 3) (ci := 1) kt_hc1 kt_hin1 (by decide) (kt_tab_get kx_P_register 26 rfl) (kg_P_register_in _ (List.mem_of_getElem? (i := 8) rfl)) <|
  sd_aload_n (pc := 50) (kt_tab_get kx_P_register 27 rfl) rfl <|
  sd_get (pc := 51) (k := 4) (ci := 1) kt_hc1 kt_hin1 (by decide) (kt_tab_get kx_P_register 28 rfl) (kg_P_register_in _ (List.mem_of_getElem? (i := 5) rfl)) <|
  sd_iload_n (pc := 54) (kt_tab_get kx_P_register 29 rfl) rfl <|
  sd_iast (pc := 55) (kt_tab_get kx_P_register 30 rfl) <|
  sd_aload_n (pc := 56) (kt_tab_get kx_P_register 31 rfl) rfl <|
  sd_dup (pc := 57) (kt_tab_get kx_P_register 32 rfl) <|
  sd_get (pc := 58) (k := 4) (ci := 1) kt_hc1 kt_hin1 (by decide) (kt_tab_get kx_P_register 33 rfl) (kg_P_register_in _ (List.mem_of_getElem? (i := 5) rfl)) <|
  sd_iconst (pc := 61) (kt_tab_get kx_P_register 34 rfl) kc_i_1 <|
  sd_iadd (pc := 62) (kt_tab_get kx_P_register 35 rfl) <|
  sd_put (pc := 63) (k := 4) (ci := 1) kt_hc1 kt_hin1 tyX1_ok nmX1 (by decide) rfl rfl (Or.inl ⟨rfl, rfl⟩) (kt_tab_get kx_P_register 36 rfl) (kg_P_register_in _ (List.mem_of_getElem? (i := 5) rfl)) <|
  sd_iconst (pc := 66) (kt_tab_get kx_P_register 37 rfl) kc_i_0 <|
  sd_iret (pc := 67) rfl (by decide) (kt_tab_get kx_P_register 38 rfl)
noncomputable def kd_P_register_20 : kt_D := ki_push (.int 9) <| ki_iret
theorem kz_P_register_20 : kt_Snd l kt_shC kb_P_register 3 RX1 (some .int) 1 0 0 false false 20 kd_P_register_20 :=
  sd_bipush (pc := 20) (kt_tab_get kx_P_register 10 rfl) kc_b_9 <|
  sd_iret (pc := 22) rfl (by decide) (kt_tab_get kx_P_register 11 rfl)
noncomputable def kd_P_register_11 : kt_D := ki_aload 0 <| ki_get kt_shC 1 4 <| ki_push (.int 6) <| ki_icmp_lt kd_P_register_23 (ki_drop 2 (ki_drop 1 (ki_drop 0 kd_P_register_20)))
theorem kz_P_register_11 : kt_Snd l kt_shC kb_P_register 3 RX1 (some .int) 1 0 0 false false 11 kd_P_register_11 :=
  sd_aload_n (pc := 11) (kt_tab_get kx_P_register 6 rfl) rfl <|
  sd_get (pc := 12) (k := 4) (ci := 1) kt_hc1 kt_hin1 (by decide) (kt_tab_get kx_P_register 7 rfl) (kg_P_register_in _ (List.mem_of_getElem? (i := 5) rfl)) <|
  sd_bipush (pc := 15) (kt_tab_get kx_P_register 8 rfl) kc_b_6 <|
  sd_icmp_lt (pc := 17) (tgt := 23) (kt_tab_get kx_P_register 9 rfl) rfl kz_P_register_23 (sd_drop (k := 2) (sd_drop (k := 1) (sd_drop (k := 0) kz_P_register_20)))
noncomputable def kd_P_register_8 : kt_D := ki_push (.int 8) <| ki_iret
theorem kz_P_register_8 : kt_Snd l kt_shC kb_P_register 3 RX1 (some .int) 1 0 0 false false 8 kd_P_register_8 :=
  sd_bipush (pc := 8) (kt_tab_get kx_P_register 4 rfl) kc_b_8 <|
  sd_iret (pc := 10) rfl (by decide) (kt_tab_get kx_P_register 5 rfl)
noncomputable def kd_P_register_0 : kt_D := ki_aload 0 <| ki_iload 1 <| ki_callV kt_shC 1 1 kf_P_find <| ki_if_lt kd_P_register_11 (ki_drop 2 (ki_drop 1 (ki_drop 0 kd_P_register_8)))
theorem kz_P_register_0 : kt_Snd l kt_shC kb_P_register 3 RX1 (some .int) 1 0 0 false false 0 kd_P_register_0 :=
  sd_aload_n (pc := 0) (kt_tab_get kx_P_register 0 rfl) rfl <|
  sd_iload_n (pc := 1) (kt_tab_get kx_P_register 1 rfl) rfl <|
  sd_callV (pc := 2) km_P_find (by decide) kv_P_find (ci := 1) kt_hc1 (by decide) (kt_tab_get kx_P_register 2 rfl) (kg_P_register_in _ (List.mem_of_getElem? (i := 9) rfl)) <|
  sd_if_lt (pc := 5) (tgt := 11) (kt_tab_get kx_P_register 3 rfl) rfl kz_P_register_11 (sd_drop (k := 2) (sd_drop (k := 1) (sd_drop (k := 0) kz_P_register_8)))
noncomputable def kf_P_register : kt_F := kt_run 3 kd_P_register_0
theorem km_P_register : kt_M l kt_shC ky_P_register kb_P_register 3 (some .int) 1 false kf_P_register := kt_method (by decide) rfl kz_P_register_0
noncomputable def kd_P_accept_26 : kt_D := ki_aload 0 <| ki_get kt_shC 1 3 <| ki_iload 3 <| ki_iload 2 <| ki_iast kt_shC <| ki_push (.int 0) <| ki_iret
theorem kz_P_accept_26 : kt_Snd l kt_shC kb_P_accept 4 RX1 (some .int) 1 0 0 false false 26 kd_P_accept_26 :=
  sd_aload_n (pc := 26) (kt_tab_get kx_P_accept 16 rfl) rfl <|
  sd_get (pc := 27) (k := 3) (ci := 1) kt_hc1 kt_hin1 (by decide) (kt_tab_get kx_P_accept 17 rfl) (kg_P_accept_in _ (List.mem_of_getElem? (i := 4) rfl)) <|
  sd_iload_n (pc := 30) (kt_tab_get kx_P_accept 18 rfl) rfl <|
  sd_iload_n (pc := 31) (kt_tab_get kx_P_accept 19 rfl) rfl <|
  sd_iast (pc := 32) (kt_tab_get kx_P_accept 20 rfl) <|
  sd_iconst (pc := 33) (kt_tab_get kx_P_accept 21 rfl) kc_i_0 <|
  sd_iret (pc := 34) rfl (by decide) (kt_tab_get kx_P_accept 22 rfl)
noncomputable def kd_P_accept_23 : kt_D := ki_push (.int 7) <| ki_iret
theorem kz_P_accept_23 : kt_Snd l kt_shC kb_P_accept 4 RX1 (some .int) 1 0 0 false false 23 kd_P_accept_23 :=
  sd_bipush (pc := 23) (kt_tab_get kx_P_accept 14 rfl) kc_b_7 <|
  sd_iret (pc := 25) rfl (by decide) (kt_tab_get kx_P_accept 15 rfl)
noncomputable def kd_P_accept_13 : kt_D := ki_iload 2 <| ki_aload 0 <| ki_get kt_shC 1 3 <| ki_iload 3 <| ki_iald kt_shC <| ki_icmp_gt kd_P_accept_26 (ki_drop 3 (ki_drop 2 (ki_drop 0 kd_P_accept_23)))
theorem kz_P_accept_13 : kt_Snd l kt_shC kb_P_accept 4 RX1 (some .int) 1 0 0 false false 13 kd_P_accept_13 :=
  sd_iload_n (pc := 13) (kt_tab_get kx_P_accept 8 rfl) rfl <|
  sd_aload_n (pc := 14) (kt_tab_get kx_P_accept 9 rfl) rfl <|
  sd_get (pc := 15) (k := 3) (ci := 1) kt_hc1 kt_hin1 (by decide) (kt_tab_get kx_P_accept 10 rfl) (kg_P_accept_in _ (List.mem_of_getElem? (i := 4) rfl)) <|
  sd_iload_n (pc := 18) (kt_tab_get kx_P_accept 11 rfl) rfl <|
  sd_iald (pc := 19) (kt_tab_get kx_P_accept 12 rfl) <|
  sd_icmp_gt (pc := 20) (tgt := 26) (kt_tab_get kx_P_accept 13 rfl) rfl kz_P_accept_26 (sd_drop (k := 3) (sd_drop (k := 2) (sd_drop (k := 0) kz_P_accept_23)))
noncomputable def kd_P_accept_10 : kt_D := ki_push (.int 8) <| ki_iret
theorem kz_P_accept_10 : kt_Snd l kt_shC kb_P_accept 4 RX1 (some .int) 1 0 0 false false 10 kd_P_accept_10 :=
  sd_bipush (pc := 10) (kt_tab_get kx_P_accept 6 rfl) kc_b_8 <|
  sd_iret (pc := 12) rfl (by decide) (kt_tab_get kx_P_accept 7 rfl)
noncomputable def kd_P_accept_0 : kt_D := ki_aload 0 <| ki_iload 1 <| ki_callV kt_shC 1 1 kf_P_find <| ki_istore 3 <| ki_iload 3 <| ki_if_ge (ki_drop 1 kd_P_accept_13) (ki_drop 3 (ki_drop 2 (ki_drop 1 (ki_drop 0 kd_P_accept_10))))
theorem kz_P_accept_0 : kt_Snd l kt_shC kb_P_accept 4 RX1 (some .int) 1 0 0 false false 0 kd_P_accept_0 :=
  sd_aload_n (pc := 0) (kt_tab_get kx_P_accept 0 rfl) rfl <|
  sd_iload_n (pc := 1) (kt_tab_get kx_P_accept 1 rfl) rfl <|
  sd_callV (pc := 2) km_P_find (by decide) kv_P_find (ci := 1) kt_hc1 (by decide) (kt_tab_get kx_P_accept 2 rfl) (kg_P_accept_in _ (List.mem_of_getElem? (i := 5) rfl)) <|
  sd_istore_n (pc := 5) (kt_tab_get kx_P_accept 3 rfl) rfl (by decide) <|
  sd_iload_n (pc := 6) (kt_tab_get kx_P_accept 4 rfl) rfl <|
  sd_if_ge (pc := 7) (tgt := 13) (kt_tab_get kx_P_accept 5 rfl) rfl (sd_drop (k := 1) kz_P_accept_13) (sd_drop (k := 3) (sd_drop (k := 2) (sd_drop (k := 1) (sd_drop (k := 0) kz_P_accept_10))))
noncomputable def kf_P_accept : kt_F := kt_run 4 kd_P_accept_0
theorem km_P_accept : kt_M l kt_shC ky_P_accept kb_P_accept 4 (some .int) 1 false kf_P_accept := kt_method (by decide) rfl kz_P_accept_0
noncomputable def kd_P_judge_74 : kt_D := ki_iload 7 <| ki_iret
theorem kz_P_judge_74 : kt_Snd l kt_shC kb_P_judge 8 RX1 (some .int) 2 0 0 false false 74 kd_P_judge_74 :=
  sd_iload (pc := 74) (kt_tab_get kx_P_judge 41 rfl) <|
  sd_iret (pc := 76) rfl (by decide) (kt_tab_get kx_P_judge 42 rfl)
noncomputable def kd_P_judge_69 : kt_D := ki_aload 0 <| ki_push (.int 0) <| ki_put kt_shC 1 5 0 <| (ki_drop 0 kd_P_judge_74)
theorem kz_P_judge_69 : kt_Snd l kt_shC kb_P_judge 8 RX1 (some .int) 2 0 0 false false 69 kd_P_judge_69 :=
  sd_aload_n (pc := 69) (kt_tab_get kx_P_judge 38 rfl) rfl <|
  sd_iconst (pc := 70) (kt_tab_get kx_P_judge 39 rfl) kc_i_0 <|
  sd_put (pc := 71) (k := 5) (ci := 1) kt_hc1 kt_hin1 tyX1_ok nmX1 (by decide) rfl rfl (Or.inl ⟨rfl, rfl⟩) (kt_tab_get kx_P_judge 40 rfl) (kg_P_judge_in _ (List.mem_of_getElem? (i := 4) rfl)) <|
  (sd_drop (k := 0) kz_P_judge_74)
noncomputable def kd_P_judge_62 : kt_D := ki_istore 7 <| ki_iload 7 <| ki_if_ne (ki_drop 0 kd_P_judge_74) kd_P_judge_69
theorem kz_P_judge_62 : kt_Snd l kt_shC kb_P_judge 8 RX1 (some .int) 2 0 0 false false 62 kd_P_judge_62 :=
  sd_istore (pc := 62) (kt_tab_get kx_P_judge 35 rfl) (by decide) <|
  sd_iload (pc := 64) (kt_tab_get kx_P_judge 36 rfl) <|
  sd_if_ne (pc := 66) (tgt := 74) (kt_tab_get kx_P_judge 37 rfl) rfl (sd_drop (k := 0) kz_P_judge_74) kz_P_judge_69
noncomputable def kd_P_judge_55 : kt_D := ki_aload 0 <| ki_iload 2 <| ki_iload 5 <| ki_callV kt_shC 1 2 kf_P_accept <| (ki_drop 5 (ki_drop 2 kd_P_judge_62))
theorem kz_P_judge_55 : kt_Snd l kt_shC kb_P_judge 8 RX1 (some .int) 2 0 0 false false 55 kd_P_judge_55 :=
  sd_aload_n (pc := 55) (kt_tab_get kx_P_judge 31 rfl) rfl <|
  sd_iload_n (pc := 56) (kt_tab_get kx_P_judge 32 rfl) rfl <|
  sd_iload (pc := 57) (kt_tab_get kx_P_judge 33 rfl) <|
  sd_callV (pc := 59) km_P_accept (by decide) kv_P_accept (ci := 1) kt_hc1 (by decide) (kt_tab_get kx_P_judge 34 rfl) (kg_P_judge_in _ (List.mem_of_getElem? (i := 5) rfl)) <|
  (sd_drop (k := 5) (sd_drop (k := 2) kz_P_judge_62))
noncomputable def kd_P_judge_45 : kt_D := ki_aload 0 <| ki_iload 2 <| ki_iload 5 <| ki_callV kt_shC 1 2 kf_P_register <| (ki_drop 5 (ki_drop 2 kd_P_judge_62))
theorem kz_P_judge_45 : kt_Snd l kt_shC kb_P_judge 8 RX1 (some .int) 2 0 0 false false 45 kd_P_judge_45 :=
  sd_aload_n (pc := 45) (kt_tab_get kx_P_judge 26 rfl) rfl <|
  sd_iload_n (pc := 46) (kt_tab_get kx_P_judge 27 rfl) rfl <|
  sd_iload (pc := 47) (kt_tab_get kx_P_judge 28 rfl) <|
  sd_callV (pc := 49) km_P_register (by decide) kv_P_register (ci := 1) kt_hc1 (by decide) (kt_tab_get kx_P_judge 29 rfl) (kg_P_judge_in _ (List.mem_of_getElem? (i := 6) rfl)) <|
  sd_goto (pc := 52) (tgt := 62) (kt_tab_get kx_P_judge 30 rfl) rfl (sd_drop (k := 5) (sd_drop (k := 2) kz_P_judge_62))
noncomputable def kd_P_judge_40 : kt_D := ki_iload 1 <| ki_push (.int 1) <| ki_icmp_ne (ki_drop 1 kd_P_judge_55) (ki_drop 1 kd_P_judge_45)
theorem kz_P_judge_40 : kt_Snd l kt_shC kb_P_judge 8 RX1 (some .int) 2 0 0 false false 40 kd_P_judge_40 :=
  sd_iload_n (pc := 40) (kt_tab_get kx_P_judge 23 rfl) rfl <|
  sd_iconst (pc := 41) (kt_tab_get kx_P_judge 24 rfl) kc_i_1 <|
  sd_icmp_ne (pc := 42) (tgt := 55) (kt_tab_get kx_P_judge 25 rfl) rfl (sd_drop (k := 1) kz_P_judge_55) (sd_drop (k := 1) kz_P_judge_45)
noncomputable def kd_P_judge_37 : kt_D := ki_push (.int 6) <| ki_iret
theorem kz_P_judge_37 : kt_Snd l kt_shC kb_P_judge 8 RX1 (some .int) 2 0 0 false false 37 kd_P_judge_37 :=
  sd_bipush (pc := 37) (kt_tab_get kx_P_judge 21 rfl) kc_b_6 <|
  sd_iret (pc := 39) rfl (by decide) (kt_tab_get kx_P_judge 22 rfl)
noncomputable def kd_P_judge_32 : kt_D := ki_iload 6 <| ki_if_eq (ki_drop 6 kd_P_judge_40) (ki_drop 6 (ki_drop 5 (ki_drop 2 (ki_drop 1 (ki_drop 0 kd_P_judge_37)))))
theorem kz_P_judge_32 : kt_Snd l kt_shC kb_P_judge 8 RX1 (some .int) 2 0 0 false false 32 kd_P_judge_32 :=
  sd_iload (pc := 32) (kt_tab_get kx_P_judge 19 rfl) <|
  sd_if_eq (pc := 34) (tgt := 40) (kt_tab_get kx_P_judge 20 rfl) rfl (sd_drop (k := 6) kz_P_judge_40) (sd_drop (k := 6) (sd_drop (k := 5) (sd_drop (k := 2) (sd_drop (k := 1) (sd_drop (k := 0) kz_P_judge_37)))))
noncomputable def kd_P_judge_30 : kt_D := ki_push (.int 3) <| ki_iret
theorem kz_P_judge_30 : kt_Snd l kt_shC kb_P_judge 8 RX1 (some .int) 2 0 0 false false 30 kd_P_judge_30 :=
  sd_iconst (pc := 30) (kt_tab_get kx_P_judge 17 rfl) kc_i_3 <|
  sd_iret (pc := 31) rfl (by decide) (kt_tab_get kx_P_judge 18 rfl)
noncomputable def kd_P_judge_18 : kt_D := ki_iload 3 <| ki_push (.int 752) <| ki_aload 0 <| ki_get kt_shC 1 0 <| ki_iadd <| ki_icmp_eq (ki_drop 3 kd_P_judge_32) (ki_drop 6 (ki_drop 5 (ki_drop 3 (ki_drop 2 (ki_drop 1 (ki_drop 0 kd_P_judge_30))))))
theorem kz_P_judge_18 : kt_Snd l kt_shC kb_P_judge 8 RX1 (some .int) 2 0 0 false false 18 kd_P_judge_18 :=
  sd_iload_n (pc := 18) (kt_tab_get kx_P_judge 11 rfl) rfl <|
  sd_sipush (pc := 19) (kt_tab_get kx_P_judge 12 rfl) kc_s_752 <|
  sd_aload_n (pc := 22) (kt_tab_get kx_P_judge 13 rfl) rfl <|
  sd_get (pc := 23) (k := 0) (ci := 1) kt_hc1 kt_hin1 (by decide) (kt_tab_get kx_P_judge 14 rfl) (kg_P_judge_in _ (List.mem_of_getElem? (i := 7) rfl)) <|
  sd_iadd (pc := 26) (kt_tab_get kx_P_judge 15 rfl) <|
  sd_icmp_eq (pc := 27) (tgt := 32) (kt_tab_get kx_P_judge 16 rfl) rfl (sd_drop (k := 3) kz_P_judge_32) (sd_drop (k := 6) (sd_drop (k := 5) (sd_drop (k := 3) (sd_drop (k := 2) (sd_drop (k := 1) (sd_drop (k := 0) kz_P_judge_30))))))
noncomputable def kd_P_judge_16 : kt_D := ki_push (.int 2) <| ki_iret
theorem kz_P_judge_16 : kt_Snd l kt_shC kb_P_judge 8 RX1 (some .int) 2 0 0 false false 16 kd_P_judge_16 :=
  sd_iconst (pc := 16) (kt_tab_get kx_P_judge 9 rfl) kc_i_2 <|
  sd_iret (pc := 17) rfl (by decide) (kt_tab_get kx_P_judge 10 rfl)
noncomputable def kd_P_judge_0 : kt_D := ki_iload 4 <| ki_push (.int 4) <| ki_aload 0 <| ki_get kt_shC 1 5 <| ki_imul <| ki_aload 0 <| ki_get kt_shC 1 0 <| ki_iadd <| ki_icmp_eq (ki_drop 4 kd_P_judge_18) (ki_drop 6 (ki_drop 5 (ki_drop 4 (ki_drop 3 (ki_drop 2 (ki_drop 1 (ki_drop 0 kd_P_judge_16)))))))
theorem kz_P_judge_0 : kt_Snd l kt_shC kb_P_judge 8 RX1 (some .int) 2 0 0 false false 0 kd_P_judge_0 :=
  sd_iload (pc := 0) (kt_tab_get kx_P_judge 0 rfl) <|
  sd_iconst (pc := 2) (kt_tab_get kx_P_judge 1 rfl) kc_i_4 <|
  sd_aload_n (pc := 3) (kt_tab_get kx_P_judge 2 rfl) rfl <|
  sd_get (pc := 4) (k := 5) (ci := 1) kt_hc1 kt_hin1 (by decide) (kt_tab_get kx_P_judge 3 rfl) (kg_P_judge_in _ (List.mem_of_getElem? (i := 4) rfl)) <|
  sd_imul (pc := 7) (kt_tab_get kx_P_judge 4 rfl) <|
  sd_aload_n (pc := 8) (kt_tab_get kx_P_judge 5 rfl) rfl <|
  sd_get (pc := 9) (k := 0) (ci := 1) kt_hc1 kt_hin1 (by decide) (kt_tab_get kx_P_judge 6 rfl) (kg_P_judge_in _ (List.mem_of_getElem? (i := 7) rfl)) <|
  sd_iadd (pc := 12) (kt_tab_get kx_P_judge 7 rfl) <|
  sd_icmp_eq (pc := 13) (tgt := 18) (kt_tab_get kx_P_judge 8 rfl) rfl (sd_drop (k := 4) kz_P_judge_18) (sd_drop (k := 6) (sd_drop (k := 5) (sd_drop (k := 4) (sd_drop (k := 3) (sd_drop (k := 2) (sd_drop (k := 1) (sd_drop (k := 0) kz_P_judge_16)))))))
noncomputable def kf_P_judge : kt_F := kt_run 8 kd_P_judge_0
theorem km_P_judge : kt_M l kt_shC ky_P_judge kb_P_judge 8 (some .int) 2 false kf_P_judge := kt_method (by decide) rfl kz_P_judge_0
noncomputable def kd_P_tell_36 : kt_D := ki_push (.int (-1)) <| ki_iret
theorem kz_P_tell_36 : kt_Snd l kt_shC kb_P_tell 3 RX1 (some .int) 0 0 0 true true 36 kd_P_tell_36 :=
  sd_iconst (pc := 36) (kt_tab_get kx_P_tell 21 rfl) kc_i_m1 <|
  sd_iret (pc := 37) rfl (by decide) (kt_tab_get kx_P_tell 22 rfl)
noncomputable def kd_P_tell_68 : kt_D := ki_aload 0 <| ki_get kt_shC 1 1 <| ki_iload 2 <| ki_iald kt_shC <| ki_iret
theorem kz_P_tell_68 : kt_Snd l kt_shC kb_P_tell 3 RX1 (some .int) 0 0 0 true true 68 kd_P_tell_68 :=
  sd_aload_n (pc := 68) (kt_tab_get kx_P_tell 27 rfl) rfl <|
  sd_get (pc := 69) (k := 1) (ci := 1) kt_hc1 kt_hin1 (by decide) (kt_tab_get kx_P_tell 28 rfl) (kg_P_tell_in _ (List.mem_of_getElem? (i := 4) rfl)) <|
  sd_iload_n (pc := 72) (kt_tab_get kx_P_tell 29 rfl) rfl <|
  sd_iald (pc := 73) (kt_tab_get kx_P_tell 30 rfl) <|
  sd_iret (pc := 74) rfl (by decide) (kt_tab_get kx_P_tell 31 rfl)
noncomputable def kd_P_tell_75 : kt_D := ki_aload 0 <| ki_get kt_shC 1 2 <| ki_iload 2 <| ki_iald kt_shC <| ki_iret
theorem kz_P_tell_75 : kt_Snd l kt_shC kb_P_tell 3 RX1 (some .int) 0 0 0 true true 75 kd_P_tell_75 :=
  sd_aload_n (pc := 75) (kt_tab_get kx_P_tell 32 rfl) rfl <|
  sd_get (pc := 76) (k := 2) (ci := 1) kt_hc1 kt_hin1 (by decide) (kt_tab_get kx_P_tell 33 rfl) (kg_P_tell_in _ (List.mem_of_getElem? (i := 5) rfl)) <|
  sd_iload_n (pc := 79) (kt_tab_get kx_P_tell 34 rfl) rfl <|
  sd_iald (pc := 80) (kt_tab_get kx_P_tell 35 rfl) <|
  sd_iret (pc := 81) rfl (by decide) (kt_tab_get kx_P_tell 36 rfl)
noncomputable def kd_P_tell_82 : kt_D := ki_aload 0 <| ki_get kt_shC 1 3 <| ki_iload 2 <| ki_iald kt_shC <| ki_iret
theorem kz_P_tell_82 : kt_Snd l kt_shC kb_P_tell 3 RX1 (some .int) 0 0 0 true true 82 kd_P_tell_82 :=
  sd_aload_n (pc := 82) (kt_tab_get kx_P_tell 37 rfl) rfl <|
  sd_get (pc := 83) (k := 3) (ci := 1) kt_hc1 kt_hin1 (by decide) (kt_tab_get kx_P_tell 38 rfl) (kg_P_tell_in _ (List.mem_of_getElem? (i := 6) rfl)) <|
  sd_iload_n (pc := 86) (kt_tab_get kx_P_tell 39 rfl) rfl <|
  sd_iald (pc := 87) (kt_tab_get kx_P_tell 40 rfl) <|
  sd_iret (pc := 88) rfl (by decide) (kt_tab_get kx_P_tell 41 rfl)
noncomputable def kd_P_tell_89 : kt_D := ki_push (.int (-1)) <| ki_iret
theorem kz_P_tell_89 : kt_Snd l kt_shC kb_P_tell 3 RX1 (some .int) 0 0 0 true true 89 kd_P_tell_89 :=
  sd_iconst (pc := 89) (kt_tab_get kx_P_tell 42 rfl) kc_i_m1 <|
  sd_iret (pc := 90) rfl (by decide) (kt_tab_get kx_P_tell 43 rfl)
noncomputable def kd_P_tell_38 : kt_D := ki_iload 1 <| ki_push (.int 10) <| ki_idiv <| ki_tsw 1 3 [(ki_drop 1 kd_P_tell_68), (ki_drop 1 kd_P_tell_75), (ki_drop 1 kd_P_tell_82)] (ki_drop 2 (ki_drop 1 (ki_drop 0 kd_P_tell_89)))
theorem kz_P_tell_38 : kt_Snd l kt_shC kb_P_tell 3 RX1 (some .int) 0 0 0 true true 38 kd_P_tell_38 :=
  sd_iload_n (pc := 38) (kt_tab_get kx_P_tell 23 rfl) rfl <|
  sd_bipush (pc := 39) (kt_tab_get kx_P_tell 24 rfl) kc_b_10 <|
  sd_idiv (pc := 41) (kt_tab_get kx_P_tell 25 rfl) <|
  sd_tsw (pc := 42) (tgt := 89) (kt_tab_get kx_P_tell 26 rfl) rfl (sd_drop (k := 2) (sd_drop (k := 1) (sd_drop (k := 0) kz_P_tell_89))) ⟨⟨68, rfl, (sd_drop (k := 1) kz_P_tell_68)⟩, ⟨75, rfl, (sd_drop (k := 1) kz_P_tell_75)⟩, ⟨82, rfl, (sd_drop (k := 1) kz_P_tell_82)⟩, trivial⟩
noncomputable def kd_P_tell_28 : kt_D := ki_iload 2 <| ki_aload 0 <| ki_get kt_shC 1 4 <| ki_icmp_lt kd_P_tell_38 (ki_drop 2 (ki_drop 1 (ki_drop 0 kd_P_tell_36)))
theorem kz_P_tell_28 : kt_Snd l kt_shC kb_P_tell 3 RX1 (some .int) 0 0 0 true true 28 kd_P_tell_28 :=
  sd_iload_n (pc := 28) (kt_tab_get kx_P_tell 17 rfl) rfl <|
  sd_aload_n (pc := 29) (kt_tab_get kx_P_tell 18 rfl) rfl <|
  sd_get (pc := 30) (k := 4) (ci := 1) kt_hc1 kt_hin1 (by decide) (kt_tab_get kx_P_tell 19 rfl) (kg_P_tell_in _ (List.mem_of_getElem? (i := 7) rfl)) <|
  sd_icmp_lt (pc := 33) (tgt := 38) (kt_tab_get kx_P_tell 20 rfl) rfl kz_P_tell_38 (sd_drop (k := 2) (sd_drop (k := 1) (sd_drop (k := 0) kz_P_tell_36)))
noncomputable def kd_P_tell_19 : kt_D := ki_iload 1 <| ki_push (.int 10) <| ki_irem <| ki_istore 2 <| ki_iload 2 <| ki_if_lt (ki_drop 2 (ki_drop 1 (ki_drop 0 kd_P_tell_36))) kd_P_tell_28
theorem kz_P_tell_19 : kt_Snd l kt_shC kb_P_tell 3 RX1 (some .int) 0 0 0 true true 19 kd_P_tell_19 :=
  sd_iload_n (pc := 19) (kt_tab_get kx_P_tell 11 rfl) rfl <|
  sd_bipush (pc := 20) (kt_tab_get kx_P_tell 12 rfl) kc_b_10 <|
  sd_irem (pc := 22) (kt_tab_get kx_P_tell 13 rfl) <|
  sd_istore_n (pc := 23) (kt_tab_get kx_P_tell 14 rfl) rfl (by decide) <|
  sd_iload_n (pc := 24) (kt_tab_get kx_P_tell 15 rfl) rfl <|
  sd_if_lt (pc := 25) (tgt := 36) (kt_tab_get kx_P_tell 16 rfl) rfl (sd_drop (k := 2) (sd_drop (k := 1) (sd_drop (k := 0) kz_P_tell_36))) kz_P_tell_28
noncomputable def kd_P_tell_14 : kt_D := ki_aload 0 <| ki_get kt_shC 1 5 <| ki_iret
theorem kz_P_tell_14 : kt_Snd l kt_shC kb_P_tell 3 RX1 (some .int) 0 0 0 true true 14 kd_P_tell_14 :=
  sd_aload_n (pc := 14) (kt_tab_get kx_P_tell 8 rfl) rfl <|
  sd_get (pc := 15) (k := 5) (ci := 1) kt_hc1 kt_hin1 (by decide) (kt_tab_get kx_P_tell 9 rfl) (kg_P_tell_in _ (List.mem_of_getElem? (i := 8) rfl)) <|
  sd_iret (pc := 18) rfl (by decide) (kt_tab_get kx_P_tell 10 rfl)
noncomputable def kd_P_tell_9 : kt_D := ki_iload 1 <| ki_push (.int 1) <| ki_icmp_ne kd_P_tell_19 (ki_drop 1 kd_P_tell_14)
theorem kz_P_tell_9 : kt_Snd l kt_shC kb_P_tell 3 RX1 (some .int) 0 0 0 true true 9 kd_P_tell_9 :=
  sd_iload_n (pc := 9) (kt_tab_get kx_P_tell 5 rfl) rfl <|
  sd_iconst (pc := 10) (kt_tab_get kx_P_tell 6 rfl) kc_i_1 <|
  sd_icmp_ne (pc := 11) (tgt := 19) (kt_tab_get kx_P_tell 7 rfl) rfl kz_P_tell_19 (sd_drop (k := 1) kz_P_tell_14)
noncomputable def kd_P_tell_4 : kt_D := ki_aload 0 <| ki_get kt_shC 1 4 <| ki_iret
theorem kz_P_tell_4 : kt_Snd l kt_shC kb_P_tell 3 RX1 (some .int) 0 0 0 true true 4 kd_P_tell_4 :=
  sd_aload_n (pc := 4) (kt_tab_get kx_P_tell 2 rfl) rfl <|
  sd_get (pc := 5) (k := 4) (ci := 1) kt_hc1 kt_hin1 (by decide) (kt_tab_get kx_P_tell 3 rfl) (kg_P_tell_in _ (List.mem_of_getElem? (i := 7) rfl)) <|
  sd_iret (pc := 8) rfl (by decide) (kt_tab_get kx_P_tell 4 rfl)
noncomputable def kd_P_tell_0 : kt_D := ki_iload 1 <| ki_if_ne kd_P_tell_9 (ki_drop 1 kd_P_tell_4)
theorem kz_P_tell_0 : kt_Snd l kt_shC kb_P_tell 3 RX1 (some .int) 0 0 0 true true 0 kd_P_tell_0 :=
  sd_iload_n (pc := 0) (kt_tab_get kx_P_tell 0 rfl) rfl <|
  sd_if_ne (pc := 1) (tgt := 9) (kt_tab_get kx_P_tell 1 rfl) rfl kz_P_tell_9 (sd_drop (k := 1) kz_P_tell_4)
noncomputable def kf_P_tell : kt_F := kt_run 3 kd_P_tell_0
theorem km_P_tell : kt_M l kt_shC ky_P_tell kb_P_tell 3 (some .int) 0 true kf_P_tell := kt_method (by decide) rfl kz_P_tell_0
end
section
variable {l : Launch}
noncomputable def kd_G_has_28 : kt_D := ki_zret
theorem kz_G_has_28 : kt_Snd l kt_shC kb_G_has 2 RX3 (some .boolean) 0 0 0 true true 28 kd_G_has_28 :=
  sd_zret (pc := 28) rfl (by decide) (kt_tab_get kx_G_has 15 rfl)
noncomputable def kd_G_has_27 : kt_D := ki_push (.int 0) <| kd_G_has_28
theorem kz_G_has_27 : kt_Snd l kt_shC kb_G_has 2 RX3 (some .boolean) 0 0 0 true true 27 kd_G_has_27 :=
  sd_iconst (pc := 27) (kt_tab_get kx_G_has 14 rfl) kc_i_0 <|
  kz_G_has_28
noncomputable def kd_G_has_23 : kt_D := ki_push (.int 1) <| kd_G_has_28
theorem kz_G_has_23 : kt_Snd l kt_shC kb_G_has 2 RX3 (some .boolean) 0 0 0 true true 23 kd_G_has_23 :=
  sd_iconst (pc := 23) (kt_tab_get kx_G_has 12 rfl) kc_i_1 <|
  sd_goto (pc := 24) (tgt := 28) (kt_tab_get kx_G_has 13 rfl) rfl kz_G_has_28
noncomputable def kd_G_has_12 : kt_D := ki_iload 1 <| ki_aload 0 <| ki_get kt_shC 3 1 <| ki_push (.int 40) <| ki_isub <| ki_icmp_le (ki_drop 1 (ki_drop 0 kd_G_has_27)) (ki_drop 1 (ki_drop 0 kd_G_has_23))
theorem kz_G_has_12 : kt_Snd l kt_shC kb_G_has 2 RX3 (some .boolean) 0 0 0 true true 12 kd_G_has_12 :=
  sd_iload_n (pc := 12) (kt_tab_get kx_G_has 6 rfl) rfl <|
  sd_aload_n (pc := 13) (kt_tab_get kx_G_has 7 rfl) rfl <|
  sd_get (pc := 14) (k := 1) (ci := 3) kt_hc3 kt_hin3 (by decide) (kt_tab_get kx_G_has 8 rfl) (kg_G_has_in _ (List.mem_of_getElem? (i := 4) rfl)) <|
  sd_bipush (pc := 17) (kt_tab_get kx_G_has 9 rfl) kc_b_40 <|
  sd_isub (pc := 19) (kt_tab_get kx_G_has 10 rfl) <|
  sd_icmp_le (pc := 20) (tgt := 27) (kt_tab_get kx_G_has 11 rfl) rfl (sd_drop (k := 1) (sd_drop (k := 0) kz_G_has_27)) (sd_drop (k := 1) (sd_drop (k := 0) kz_G_has_23))
noncomputable def kd_G_has_4 : kt_D := ki_iload 1 <| ki_aload 0 <| ki_get kt_shC 3 1 <| ki_icmp_gt (ki_drop 1 (ki_drop 0 kd_G_has_27)) kd_G_has_12
theorem kz_G_has_4 : kt_Snd l kt_shC kb_G_has 2 RX3 (some .boolean) 0 0 0 true true 4 kd_G_has_4 :=
  sd_iload_n (pc := 4) (kt_tab_get kx_G_has 2 rfl) rfl <|
  sd_aload_n (pc := 5) (kt_tab_get kx_G_has 3 rfl) rfl <|
  sd_get (pc := 6) (k := 1) (ci := 3) kt_hc3 kt_hin3 (by decide) (kt_tab_get kx_G_has 4 rfl) (kg_G_has_in _ (List.mem_of_getElem? (i := 4) rfl)) <|
  sd_icmp_gt (pc := 9) (tgt := 27) (kt_tab_get kx_G_has 5 rfl) rfl (sd_drop (k := 1) (sd_drop (k := 0) kz_G_has_27)) kz_G_has_12
noncomputable def kd_G_has_0 : kt_D := ki_iload 1 <| ki_if_le (ki_drop 1 (ki_drop 0 kd_G_has_27)) kd_G_has_4
theorem kz_G_has_0 : kt_Snd l kt_shC kb_G_has 2 RX3 (some .boolean) 0 0 0 true true 0 kd_G_has_0 :=
  sd_iload_n (pc := 0) (kt_tab_get kx_G_has 0 rfl) rfl <|
  sd_if_le (pc := 1) (tgt := 27) (kt_tab_get kx_G_has 1 rfl) rfl (sd_drop (k := 1) (sd_drop (k := 0) kz_G_has_27)) kz_G_has_4
noncomputable def kf_G_has : kt_F := kt_run 2 kd_G_has_0
theorem km_G_has : kt_M l kt_shC ky_G_has kb_G_has 2 (some .boolean) 0 true kf_G_has := kt_method (by decide) rfl kz_G_has_0
noncomputable def kd_G_field_49 : kt_D := ki_iret
theorem kz_G_field_49 : kt_Snd l kt_shC kb_G_field 4 RX3 (some .int) 1 0 0 true true 49 kd_G_field_49 :=
  sd_iret (pc := 49) rfl (by decide) (kt_tab_get kx_G_field 30 rfl)
noncomputable def kd_G_field_48 : kt_D := ki_push (.int 0) <| kd_G_field_49
theorem kz_G_field_48 : kt_Snd l kt_shC kb_G_field 4 RX3 (some .int) 1 0 0 true true 48 kd_G_field_48 :=
  sd_iconst (pc := 48) (kt_tab_get kx_G_field 29 rfl) kc_i_0 <|
  kz_G_field_49
noncomputable def kd_G_field_29 : kt_D := ki_aload 0 <| ki_get kt_shC 3 0 <| ki_iload 1 <| ki_push (.int 40) <| ki_irem <| ki_push (.int 6) <| ki_imul <| ki_iload 2 <| ki_iadd <| ki_push (.int 1) <| ki_isub <| ki_iald kt_shC <| (ki_drop 2 (ki_drop 1 (ki_drop 0 kd_G_field_49)))
theorem kz_G_field_29 : kt_Snd l kt_shC kb_G_field 4 RX3 (some .int) 1 0 0 true true 29 kd_G_field_29 :=
  sd_aload_n (pc := 29) (kt_tab_get kx_G_field 16 rfl) rfl <|
  sd_get (pc := 30) (k := 0) (ci := 3) kt_hc3 kt_hin3 (by decide) (kt_tab_get kx_G_field 17 rfl) (kg_G_field_in _ (List.mem_of_getElem? (i := 4) rfl)) <|
  sd_iload_n (pc := 33) (kt_tab_get kx_G_field 18 rfl) rfl <|
  sd_bipush (pc := 34) (kt_tab_get kx_G_field 19 rfl) kc_b_40 <|
  sd_irem (pc := 36) (kt_tab_get kx_G_field 20 rfl) <|
  sd_bipush (pc := 37) (kt_tab_get kx_G_field 21 rfl) kc_b_6 <|
  sd_imul (pc := 39) (kt_tab_get kx_G_field 22 rfl) <|
  sd_iload_n (pc := 40) (kt_tab_get kx_G_field 23 rfl) rfl <|
  sd_iadd (pc := 41) (kt_tab_get kx_G_field 24 rfl) <|
  sd_iconst (pc := 42) (kt_tab_get kx_G_field 25 rfl) kc_i_1 <|
  sd_isub (pc := 43) (kt_tab_get kx_G_field 26 rfl) <|
  sd_iald (pc := 44) (kt_tab_get kx_G_field 27 rfl) <|
  sd_goto (pc := 45) (tgt := 49) (kt_tab_get kx_G_field 28 rfl) rfl (sd_drop (k := 2) (sd_drop (k := 1) (sd_drop (k := 0) kz_G_field_49)))
noncomputable def kd_G_field_24 : kt_D := ki_istore 3 <| ki_iload 3 <| ki_if_eq (ki_drop 3 (ki_drop 2 (ki_drop 1 (ki_drop 0 kd_G_field_48)))) (ki_drop 3 kd_G_field_29)
theorem kz_G_field_24 : kt_Snd l kt_shC kb_G_field 4 RX3 (some .int) 1 0 0 true true 24 kd_G_field_24 :=
  sd_istore_n (pc := 24) (kt_tab_get kx_G_field 13 rfl) rfl (by decide) <|
  sd_iload_n (pc := 25) (kt_tab_get kx_G_field 14 rfl) rfl <|
  sd_if_eq (pc := 26) (tgt := 48) (kt_tab_get kx_G_field 15 rfl) rfl (sd_drop (k := 3) (sd_drop (k := 2) (sd_drop (k := 1) (sd_drop (k := 0) kz_G_field_48)))) (sd_drop (k := 3) kz_G_field_29)
noncomputable def kd_G_field_23 : kt_D := ki_push (.int 0) <| kd_G_field_24
theorem kz_G_field_23 : kt_Snd l kt_shC kb_G_field 4 RX3 (some .int) 1 0 0 true true 23 kd_G_field_23 :=
  sd_iconst (pc := 23) (kt_tab_get kx_G_field 12 rfl) kc_i_0 <|
  kz_G_field_24
noncomputable def kd_G_field_19 : kt_D := ki_push (.int 1) <| kd_G_field_24
theorem kz_G_field_19 : kt_Snd l kt_shC kb_G_field 4 RX3 (some .int) 1 0 0 true true 19 kd_G_field_19 :=
  sd_iconst (pc := 19) (kt_tab_get kx_G_field 10 rfl) kc_i_1 <|
  sd_goto (pc := 20) (tgt := 24) (kt_tab_get kx_G_field 11 rfl) rfl kz_G_field_24
noncomputable def kd_G_field_13 : kt_D := ki_iload 2 <| ki_push (.int 6) <| ki_icmp_gt kd_G_field_23 kd_G_field_19
theorem kz_G_field_13 : kt_Snd l kt_shC kb_G_field 4 RX3 (some .int) 1 0 0 true true 13 kd_G_field_13 :=
  sd_iload_n (pc := 13) (kt_tab_get kx_G_field 7 rfl) rfl <|
  sd_bipush (pc := 14) (kt_tab_get kx_G_field 8 rfl) kc_b_6 <|
  sd_icmp_gt (pc := 16) (tgt := 23) (kt_tab_get kx_G_field 9 rfl) rfl kz_G_field_23 kz_G_field_19
noncomputable def kd_G_field_8 : kt_D := ki_iload 2 <| ki_push (.int 1) <| ki_icmp_lt kd_G_field_23 kd_G_field_13
theorem kz_G_field_8 : kt_Snd l kt_shC kb_G_field 4 RX3 (some .int) 1 0 0 true true 8 kd_G_field_8 :=
  sd_iload_n (pc := 8) (kt_tab_get kx_G_field 4 rfl) rfl <|
  sd_iconst (pc := 9) (kt_tab_get kx_G_field 5 rfl) kc_i_1 <|
  sd_icmp_lt (pc := 10) (tgt := 23) (kt_tab_get kx_G_field 6 rfl) rfl kz_G_field_23 kz_G_field_13
noncomputable def kd_G_field_0 : kt_D := ki_aload 0 <| ki_iload 1 <| ki_callV kt_shC 3 1 kf_G_has <| ki_if_eq kd_G_field_23 kd_G_field_8
theorem kz_G_field_0 : kt_Snd l kt_shC kb_G_field 4 RX3 (some .int) 1 0 0 true true 0 kd_G_field_0 :=
  sd_aload_n (pc := 0) (kt_tab_get kx_G_field 0 rfl) rfl <|
  sd_iload_n (pc := 1) (kt_tab_get kx_G_field 1 rfl) rfl <|
  sd_callV (pc := 2) km_G_has (by decide) kv_G_has (ci := 3) kt_hc3 (by decide) (kt_tab_get kx_G_field 2 rfl) (kg_G_field_in _ (List.mem_of_getElem? (i := 5) rfl)) <|
  sd_if_eq (pc := 5) (tgt := 23) (kt_tab_get kx_G_field 3 rfl) rfl kz_G_field_23 kz_G_field_8
noncomputable def kf_G_field : kt_F := kt_run 4 kd_G_field_0
theorem km_G_field : kt_M l kt_shC ky_G_field kb_G_field 4 (some .int) 1 true kf_G_field := kt_method (by decide) rfl kz_G_field_0
noncomputable def kd_G_make_95 : kt_D := ki_iast kt_shC <| ki_vret
theorem kz_G_make_95 : kt_Snd l kt_shC kb_G_make 8 RX3 none 0 0 0 false false 95 kd_G_make_95 :=
  sd_iast (pc := 95) (kt_tab_get kx_G_make 60 rfl) <|
  sd_vret (pc := 96) rfl (by decide) (kt_tab_get kx_G_make 61 rfl)
noncomputable def kd_G_make_94 : kt_D := ki_push (.int 0) <| kd_G_make_95
theorem kz_G_make_94 : kt_Snd l kt_shC kb_G_make 8 RX3 none 0 0 0 false false 94 kd_G_make_94 :=
  sd_iconst (pc := 94) (kt_tab_get kx_G_make 59 rfl) kc_i_0 <|
  kz_G_make_95
noncomputable def kd_G_make_90 : kt_D := ki_push (.int 1) <| kd_G_make_95
theorem kz_G_make_90 : kt_Snd l kt_shC kb_G_make 8 RX3 none 0 0 0 false false 90 kd_G_make_90 :=
  sd_iconst (pc := 90) (kt_tab_get kx_G_make 57 rfl) kc_i_1 <|
  sd_goto (pc := 91) (tgt := 95) (kt_tab_get kx_G_make 58 rfl) rfl kz_G_make_95
noncomputable def kd_G_make_0 : kt_D := ki_aload 0 <| ki_dup <| ki_get kt_shC 3 1 <| ki_push (.int 1) <| ki_iadd <| ki_put kt_shC 3 1 0 <| ki_aload 0 <| ki_get kt_shC 3 1 <| ki_push (.int 40) <| ki_irem <| ki_push (.int 6) <| ki_imul <| ki_push (.int 1) <| ki_isub <| ki_istore 7 <| ki_aload 0 <| ki_get kt_shC 3 0 <| ki_iload 7 <| ki_push (.int 1) <| ki_iadd <| ki_iload 1 <| ki_iast kt_shC <| ki_aload 0 <| ki_get kt_shC 3 0 <| ki_iload 7 <| ki_push (.int 2) <| ki_iadd <| ki_iload 2 <| ki_iast kt_shC <| ki_aload 0 <| ki_get kt_shC 3 0 <| ki_iload 7 <| ki_push (.int 3) <| ki_iadd <| ki_iload 3 <| ki_iast kt_shC <| ki_aload 0 <| ki_get kt_shC 3 0 <| ki_iload 7 <| ki_push (.int 4) <| ki_iadd <| ki_iload 4 <| ki_iast kt_shC <| ki_aload 0 <| ki_get kt_shC 3 0 <| ki_iload 7 <| ki_push (.int 5) <| ki_iadd <| ki_iload 5 <| ki_iast kt_shC <| ki_aload 0 <| ki_get kt_shC 3 0 <| ki_iload 7 <| ki_push (.int 6) <| ki_iadd <| ki_iload 6 <| ki_if_eq (ki_drop 7 (ki_drop 6 (ki_drop 5 (ki_drop 4 (ki_drop 3 (ki_drop 2 (ki_drop 1 (ki_drop 0 kd_G_make_94)))))))) (ki_drop 7 (ki_drop 6 (ki_drop 5 (ki_drop 4 (ki_drop 3 (ki_drop 2 (ki_drop 1 (ki_drop 0 kd_G_make_90))))))))
theorem kz_G_make_0 : kt_Snd l kt_shC kb_G_make 8 RX3 none 0 0 0 false false 0 kd_G_make_0 :=
  sd_aload_n (pc := 0) (kt_tab_get kx_G_make 0 rfl) rfl <|
  sd_dup (pc := 1) (kt_tab_get kx_G_make 1 rfl) <|
  sd_get (pc := 2) (k := 1) (ci := 3) kt_hc3 kt_hin3 (by decide) (kt_tab_get kx_G_make 2 rfl) (kg_G_make_in _ (List.mem_of_getElem? (i := 4) rfl)) <|
  sd_iconst (pc := 5) (kt_tab_get kx_G_make 3 rfl) kc_i_1 <|
  sd_iadd (pc := 6) (kt_tab_get kx_G_make 4 rfl) <|
  sd_put (pc := 7) (k := 1) (ci := 3) kt_hc3 kt_hin3 tyX3_ok nmX3 (by decide) rfl rfl (Or.inl ⟨rfl, rfl⟩) (kt_tab_get kx_G_make 5 rfl) (kg_G_make_in _ (List.mem_of_getElem? (i := 4) rfl)) <|
  sd_aload_n (pc := 10) (kt_tab_get kx_G_make 6 rfl) rfl <|
  sd_get (pc := 11) (k := 1) (ci := 3) kt_hc3 kt_hin3 (by decide) (kt_tab_get kx_G_make 7 rfl) (kg_G_make_in _ (List.mem_of_getElem? (i := 4) rfl)) <|
  sd_bipush (pc := 14) (kt_tab_get kx_G_make 8 rfl) kc_b_40 <|
  sd_irem (pc := 16) (kt_tab_get kx_G_make 9 rfl) <|
  sd_bipush (pc := 17) (kt_tab_get kx_G_make 10 rfl) kc_b_6 <|
  sd_imul (pc := 19) (kt_tab_get kx_G_make 11 rfl) <|
  sd_iconst (pc := 20) (kt_tab_get kx_G_make 12 rfl) kc_i_1 <|
  sd_isub (pc := 21) (kt_tab_get kx_G_make 13 rfl) <|
  sd_istore (pc := 22) (kt_tab_get kx_G_make 14 rfl) (by decide) <|
  sd_aload_n (pc := 24) (kt_tab_get kx_G_make 15 rfl) rfl <|
  sd_get (pc := 25) (k := 0) (ci := 3) kt_hc3 kt_hin3 (by decide) (kt_tab_get kx_G_make 16 rfl) (kg_G_make_in _ (List.mem_of_getElem? (i := 5) rfl)) <|
  sd_iload (pc := 28) (kt_tab_get kx_G_make 17 rfl) <|
  sd_iconst (pc := 30) (kt_tab_get kx_G_make 18 rfl) kc_i_1 <|
  sd_iadd (pc := 31) (kt_tab_get kx_G_make 19 rfl) <|
  sd_iload_n (pc := 32) (kt_tab_get kx_G_make 20 rfl) rfl <|
  sd_iast (pc := 33) (kt_tab_get kx_G_make 21 rfl) <|
  sd_aload_n (pc := 34) (kt_tab_get kx_G_make 22 rfl) rfl <|
  sd_get (pc := 35) (k := 0) (ci := 3) kt_hc3 kt_hin3 (by decide) (kt_tab_get kx_G_make 23 rfl) (kg_G_make_in _ (List.mem_of_getElem? (i := 5) rfl)) <|
  sd_iload (pc := 38) (kt_tab_get kx_G_make 24 rfl) <|
  sd_iconst (pc := 40) (kt_tab_get kx_G_make 25 rfl) kc_i_2 <|
  sd_iadd (pc := 41) (kt_tab_get kx_G_make 26 rfl) <|
  sd_iload_n (pc := 42) (kt_tab_get kx_G_make 27 rfl) rfl <|
  sd_iast (pc := 43) (kt_tab_get kx_G_make 28 rfl) <|
  sd_aload_n (pc := 44) (kt_tab_get kx_G_make 29 rfl) rfl <|
  sd_get (pc := 45) (k := 0) (ci := 3) kt_hc3 kt_hin3 (by decide) (kt_tab_get kx_G_make 30 rfl) (kg_G_make_in _ (List.mem_of_getElem? (i := 5) rfl)) <|
  sd_iload (pc := 48) (kt_tab_get kx_G_make 31 rfl) <|
  sd_iconst (pc := 50) (kt_tab_get kx_G_make 32 rfl) kc_i_3 <|
  sd_iadd (pc := 51) (kt_tab_get kx_G_make 33 rfl) <|
  sd_iload_n (pc := 52) (kt_tab_get kx_G_make 34 rfl) rfl <|
  sd_iast (pc := 53) (kt_tab_get kx_G_make 35 rfl) <|
  sd_aload_n (pc := 54) (kt_tab_get kx_G_make 36 rfl) rfl <|
  sd_get (pc := 55) (k := 0) (ci := 3) kt_hc3 kt_hin3 (by decide) (kt_tab_get kx_G_make 37 rfl) (kg_G_make_in _ (List.mem_of_getElem? (i := 5) rfl)) <|
  sd_iload (pc := 58) (kt_tab_get kx_G_make 38 rfl) <|
  sd_iconst (pc := 60) (kt_tab_get kx_G_make 39 rfl) kc_i_4 <|
  sd_iadd (pc := 61) (kt_tab_get kx_G_make 40 rfl) <|
  sd_iload (pc := 62) (kt_tab_get kx_G_make 41 rfl) <|
  sd_iast (pc := 64) (kt_tab_get kx_G_make 42 rfl) <|
  sd_aload_n (pc := 65) (kt_tab_get kx_G_make 43 rfl) rfl <|
  sd_get (pc := 66) (k := 0) (ci := 3) kt_hc3 kt_hin3 (by decide) (kt_tab_get kx_G_make 44 rfl) (kg_G_make_in _ (List.mem_of_getElem? (i := 5) rfl)) <|
  sd_iload (pc := 69) (kt_tab_get kx_G_make 45 rfl) <|
  sd_iconst (pc := 71) (kt_tab_get kx_G_make 46 rfl) kc_i_5 <|
  sd_iadd (pc := 72) (kt_tab_get kx_G_make 47 rfl) <|
  sd_iload (pc := 73) (kt_tab_get kx_G_make 48 rfl) <|
  sd_iast (pc := 75) (kt_tab_get kx_G_make 49 rfl) <|
  sd_aload_n (pc := 76) (kt_tab_get kx_G_make 50 rfl) rfl <|
  sd_get (pc := 77) (k := 0) (ci := 3) kt_hc3 kt_hin3 (by decide) (kt_tab_get kx_G_make 51 rfl) (kg_G_make_in _ (List.mem_of_getElem? (i := 5) rfl)) <|
  sd_iload (pc := 80) (kt_tab_get kx_G_make 52 rfl) <|
  sd_bipush (pc := 82) (kt_tab_get kx_G_make 53 rfl) kc_b_6 <|
  sd_iadd (pc := 84) (kt_tab_get kx_G_make 54 rfl) <|
  sd_iload (pc := 85) (kt_tab_get kx_G_make 55 rfl) <|
  sd_if_eq (pc := 87) (tgt := 94) (kt_tab_get kx_G_make 56 rfl) rfl (sd_drop (k := 7) (sd_drop (k := 6) (sd_drop (k := 5) (sd_drop (k := 4) (sd_drop (k := 3) (sd_drop (k := 2) (sd_drop (k := 1) (sd_drop (k := 0) kz_G_make_94)))))))) (sd_drop (k := 7) (sd_drop (k := 6) (sd_drop (k := 5) (sd_drop (k := 4) (sd_drop (k := 3) (sd_drop (k := 2) (sd_drop (k := 1) (sd_drop (k := 0) kz_G_make_90))))))))
noncomputable def kf_G_make : kt_F := kt_run 8 kd_G_make_0
theorem km_G_make : kt_M l kt_shC ky_G_make kb_G_make 8 none 0 false kf_G_make := kt_method (by decide) rfl kz_G_make_0
end
section
variable {l : Launch}
noncomputable def kd_S_read_35 : kt_D := ki_iret
theorem kz_S_read_35 : kt_Snd l kt_shC kb_S_read 3 RX4 (some .int) 0 0 0 true true 35 kd_S_read_35 :=
  sd_iret (pc := 35) rfl (by decide) (kt_tab_get kx_S_read 20 rfl)
noncomputable def kd_S_read_34 : kt_D := ki_push (.int 0) <| kd_S_read_35
theorem kz_S_read_34 : kt_Snd l kt_shC kb_S_read 3 RX4 (some .int) 0 0 0 true true 34 kd_S_read_34 :=
  sd_iconst (pc := 34) (kt_tab_get kx_S_read 19 rfl) kc_i_0 <|
  kz_S_read_35
noncomputable def kd_S_read_20 : kt_D := ki_aload 0 <| ki_get kt_shC 4 0 <| ki_iload 1 <| ki_push (.int 6) <| ki_imul <| ki_iload 2 <| ki_iadd <| ki_iald kt_shC <| (ki_drop 2 (ki_drop 1 (ki_drop 0 kd_S_read_35)))
theorem kz_S_read_20 : kt_Snd l kt_shC kb_S_read 3 RX4 (some .int) 0 0 0 true true 20 kd_S_read_20 :=
  sd_aload_n (pc := 20) (kt_tab_get kx_S_read 10 rfl) rfl <|
  sd_get (pc := 21) (k := 0) (ci := 4) kt_hc4 kt_hin4 (by decide) (kt_tab_get kx_S_read 11 rfl) (kg_S_read_in _ (List.mem_of_getElem? (i := 4) rfl)) <|
  sd_iload_n (pc := 24) (kt_tab_get kx_S_read 12 rfl) rfl <|
  sd_bipush (pc := 25) (kt_tab_get kx_S_read 13 rfl) kc_b_6 <|
  sd_imul (pc := 27) (kt_tab_get kx_S_read 14 rfl) <|
  sd_iload_n (pc := 28) (kt_tab_get kx_S_read 15 rfl) rfl <|
  sd_iadd (pc := 29) (kt_tab_get kx_S_read 16 rfl) <|
  sd_iald (pc := 30) (kt_tab_get kx_S_read 17 rfl) <|
  sd_goto (pc := 31) (tgt := 35) (kt_tab_get kx_S_read 18 rfl) rfl (sd_drop (k := 2) (sd_drop (k := 1) (sd_drop (k := 0) kz_S_read_35)))
noncomputable def kd_S_read_14 : kt_D := ki_iload 2 <| ki_push (.int 6) <| ki_icmp_ge (ki_drop 2 (ki_drop 1 (ki_drop 0 kd_S_read_34))) kd_S_read_20
theorem kz_S_read_14 : kt_Snd l kt_shC kb_S_read 3 RX4 (some .int) 0 0 0 true true 14 kd_S_read_14 :=
  sd_iload_n (pc := 14) (kt_tab_get kx_S_read 7 rfl) rfl <|
  sd_bipush (pc := 15) (kt_tab_get kx_S_read 8 rfl) kc_b_6 <|
  sd_icmp_ge (pc := 17) (tgt := 34) (kt_tab_get kx_S_read 9 rfl) rfl (sd_drop (k := 2) (sd_drop (k := 1) (sd_drop (k := 0) kz_S_read_34))) kz_S_read_20
noncomputable def kd_S_read_10 : kt_D := ki_iload 2 <| ki_if_lt (ki_drop 2 (ki_drop 1 (ki_drop 0 kd_S_read_34))) kd_S_read_14
theorem kz_S_read_10 : kt_Snd l kt_shC kb_S_read 3 RX4 (some .int) 0 0 0 true true 10 kd_S_read_10 :=
  sd_iload_n (pc := 10) (kt_tab_get kx_S_read 5 rfl) rfl <|
  sd_if_lt (pc := 11) (tgt := 34) (kt_tab_get kx_S_read 6 rfl) rfl (sd_drop (k := 2) (sd_drop (k := 1) (sd_drop (k := 0) kz_S_read_34))) kz_S_read_14
noncomputable def kd_S_read_4 : kt_D := ki_iload 1 <| ki_push (.int 7) <| ki_icmp_ge (ki_drop 2 (ki_drop 1 (ki_drop 0 kd_S_read_34))) kd_S_read_10
theorem kz_S_read_4 : kt_Snd l kt_shC kb_S_read 3 RX4 (some .int) 0 0 0 true true 4 kd_S_read_4 :=
  sd_iload_n (pc := 4) (kt_tab_get kx_S_read 2 rfl) rfl <|
  sd_bipush (pc := 5) (kt_tab_get kx_S_read 3 rfl) kc_b_7 <|
  sd_icmp_ge (pc := 7) (tgt := 34) (kt_tab_get kx_S_read 4 rfl) rfl (sd_drop (k := 2) (sd_drop (k := 1) (sd_drop (k := 0) kz_S_read_34))) kz_S_read_10
noncomputable def kd_S_read_0 : kt_D := ki_iload 1 <| ki_if_lt (ki_drop 2 (ki_drop 1 (ki_drop 0 kd_S_read_34))) kd_S_read_4
theorem kz_S_read_0 : kt_Snd l kt_shC kb_S_read 3 RX4 (some .int) 0 0 0 true true 0 kd_S_read_0 :=
  sd_iload_n (pc := 0) (kt_tab_get kx_S_read 0 rfl) rfl <|
  sd_if_lt (pc := 1) (tgt := 34) (kt_tab_get kx_S_read 1 rfl) rfl (sd_drop (k := 2) (sd_drop (k := 1) (sd_drop (k := 0) kz_S_read_34))) kz_S_read_4
noncomputable def kf_S_read : kt_F := kt_run 3 kd_S_read_0
theorem km_S_read : kt_M l kt_shC ky_S_read kb_S_read 3 (some .int) 0 true kf_S_read := kt_method (by decide) rfl kz_S_read_0
noncomputable def kd_S_pageOf_36 : kt_D := ki_push (.int (-1)) <| ki_iret
theorem kz_S_pageOf_36 : kt_Snd l kt_shC kb_S_pageOf 4 RX4 (some .int) 1 0 0 true true 36 kd_S_pageOf_36 :=
  sd_iconst (pc := 36) (kt_tab_get kx_S_pageOf 22 rfl) kc_i_m1 <|
  sd_iret (pc := 37) rfl (by decide) (kt_tab_get kx_S_pageOf 23 rfl)
noncomputable def kd_S_pageOf_30 (kh_2 : kt_D) : kt_D := ki_iinc 2 1 <| kh_2
theorem kz_S_pageOf_30 {kh_2 : kt_D} (zh_2 : kt_Snd l kt_shC kb_S_pageOf 4 RX4 (some .int) 1 0 0 true true 2 kh_2) : kt_Snd l kt_shC kb_S_pageOf 4 RX4 (some .int) 1 0 0 true true 30 (kd_S_pageOf_30 kh_2) :=
  sd_iinc (pc := 30) (kt_tab_get kx_S_pageOf 20 rfl) kc_i_1 (by decide) <|
  sd_goto (pc := 33) (tgt := 2) (kt_tab_get kx_S_pageOf 21 rfl) rfl zh_2
noncomputable def kd_S_pageOf_28 : kt_D := ki_iload 2 <| ki_iret
theorem kz_S_pageOf_28 : kt_Snd l kt_shC kb_S_pageOf 4 RX4 (some .int) 1 0 0 true true 28 kd_S_pageOf_28 :=
  sd_iload_n (pc := 28) (kt_tab_get kx_S_pageOf 18 rfl) rfl <|
  sd_iret (pc := 29) rfl (by decide) (kt_tab_get kx_S_pageOf 19 rfl)
noncomputable def kd_S_pageOf_20 (kh_2 : kt_D) : kt_D := ki_iload 3 <| ki_push (.int 16) <| ki_irem <| ki_iload 1 <| ki_icmp_ne (ki_drop 3 (kd_S_pageOf_30 kh_2)) (ki_drop 3 (ki_drop 1 (ki_drop 0 kd_S_pageOf_28)))
theorem kz_S_pageOf_20 {kh_2 : kt_D} (zh_2 : kt_Snd l kt_shC kb_S_pageOf 4 RX4 (some .int) 1 0 0 true true 2 kh_2) : kt_Snd l kt_shC kb_S_pageOf 4 RX4 (some .int) 1 0 0 true true 20 (kd_S_pageOf_20 kh_2) :=
  sd_iload_n (pc := 20) (kt_tab_get kx_S_pageOf 13 rfl) rfl <|
  sd_bipush (pc := 21) (kt_tab_get kx_S_pageOf 14 rfl) kc_b_16 <|
  sd_irem (pc := 23) (kt_tab_get kx_S_pageOf 15 rfl) <|
  sd_iload_n (pc := 24) (kt_tab_get kx_S_pageOf 16 rfl) rfl <|
  sd_icmp_ne (pc := 25) (tgt := 30) (kt_tab_get kx_S_pageOf 17 rfl) rfl (sd_drop (k := 3) (kz_S_pageOf_30 zh_2)) (sd_drop (k := 3) (sd_drop (k := 1) (sd_drop (k := 0) kz_S_pageOf_28)))
noncomputable def kd_S_pageOf_8 (kh_2 : kt_D) : kt_D := ki_aload 0 <| ki_iload 2 <| ki_push (.int 0) <| ki_callV kt_shC 4 2 kf_S_read <| ki_istore 3 <| ki_iload 3 <| ki_push (.int (-1)) <| ki_icmp_eq (ki_drop 3 (kd_S_pageOf_30 kh_2)) (kd_S_pageOf_20 kh_2)
theorem kz_S_pageOf_8 {kh_2 : kt_D} (zh_2 : kt_Snd l kt_shC kb_S_pageOf 4 RX4 (some .int) 1 0 0 true true 2 kh_2) : kt_Snd l kt_shC kb_S_pageOf 4 RX4 (some .int) 1 0 0 true true 8 (kd_S_pageOf_8 kh_2) :=
  sd_aload_n (pc := 8) (kt_tab_get kx_S_pageOf 5 rfl) rfl <|
  sd_iload_n (pc := 9) (kt_tab_get kx_S_pageOf 6 rfl) rfl <|
  sd_iconst (pc := 10) (kt_tab_get kx_S_pageOf 7 rfl) kc_i_0 <|
  sd_callV (pc := 11) km_S_read (by decide) kv_S_read (ci := 4) kt_hc4 (by decide) (kt_tab_get kx_S_pageOf 8 rfl) (kg_S_pageOf_in _ (List.mem_of_getElem? (i := 4) rfl)) <|
  sd_istore_n (pc := 14) (kt_tab_get kx_S_pageOf 9 rfl) rfl (by decide) <|
  sd_iload_n (pc := 15) (kt_tab_get kx_S_pageOf 10 rfl) rfl <|
  sd_iconst (pc := 16) (kt_tab_get kx_S_pageOf 11 rfl) kc_i_m1 <|
  sd_icmp_eq (pc := 17) (tgt := 30) (kt_tab_get kx_S_pageOf 12 rfl) rfl (sd_drop (k := 3) (kz_S_pageOf_30 zh_2)) (kz_S_pageOf_20 zh_2)
noncomputable def kd_S_pageOf_2b (kh_2 : kt_D) : kt_D := ki_iload 2 <| ki_push (.int 7) <| ki_icmp_ge (ki_drop 2 (ki_drop 1 (ki_drop 0 kd_S_pageOf_36))) (kd_S_pageOf_8 kh_2)
theorem kz_S_pageOf_2b {kh_2 : kt_D} (zh_2 : kt_Snd l kt_shC kb_S_pageOf 4 RX4 (some .int) 1 0 0 true true 2 kh_2) : kt_Snd l kt_shC kb_S_pageOf 4 RX4 (some .int) 1 0 0 true true 2 (kd_S_pageOf_2b kh_2) :=
  sd_iload_n (pc := 2) (kt_tab_get kx_S_pageOf 2 rfl) rfl <|
  sd_bipush (pc := 3) (kt_tab_get kx_S_pageOf 3 rfl) kc_b_7 <|
  sd_icmp_ge (pc := 5) (tgt := 36) (kt_tab_get kx_S_pageOf 4 rfl) rfl (sd_drop (k := 2) (sd_drop (k := 1) (sd_drop (k := 0) kz_S_pageOf_36))) (kz_S_pageOf_8 zh_2)
noncomputable def kd_S_pageOf_2 (n : Nat) : kt_D := Nat.rec (fun _ _ _ => none) (fun _ ih => kd_S_pageOf_2b ih) n
theorem kz_S_pageOf_2 (n : Nat) : kt_Snd l kt_shC kb_S_pageOf 4 RX4 (some .int) 1 0 0 true true 2 (kd_S_pageOf_2 n) := by
  induction n with
  | zero => exact sd_fail
  | succ n ih => exact kz_S_pageOf_2b ih
noncomputable def kd_S_pageOf_0 : kt_D := ki_push (.int 0) <| ki_istore 2 <| (kd_S_pageOf_2 100)
theorem kz_S_pageOf_0 : kt_Snd l kt_shC kb_S_pageOf 4 RX4 (some .int) 1 0 0 true true 0 kd_S_pageOf_0 :=
  sd_iconst (pc := 0) (kt_tab_get kx_S_pageOf 0 rfl) kc_i_0 <|
  sd_istore_n (pc := 1) (kt_tab_get kx_S_pageOf 1 rfl) rfl (by decide) <|
  (kz_S_pageOf_2 100)
noncomputable def kf_S_pageOf : kt_F := kt_run 4 kd_S_pageOf_0
theorem km_S_pageOf : kt_M l kt_shC ky_S_pageOf kb_S_pageOf 4 (some .int) 1 true kf_S_pageOf := kt_method (by decide) rfl kz_S_pageOf_0
noncomputable def kd_S_has_13 : kt_D := ki_zret
theorem kz_S_has_13 : kt_Snd l kt_shC kb_S_has 2 RX4 (some .boolean) 2 0 0 true true 13 kd_S_has_13 :=
  sd_zret (pc := 13) rfl (by decide) (kt_tab_get kx_S_has 7 rfl)
noncomputable def kd_S_has_12 : kt_D := ki_push (.int 0) <| kd_S_has_13
theorem kz_S_has_12 : kt_Snd l kt_shC kb_S_has 2 RX4 (some .boolean) 2 0 0 true true 12 kd_S_has_12 :=
  sd_iconst (pc := 12) (kt_tab_get kx_S_has 6 rfl) kc_i_0 <|
  kz_S_has_13
noncomputable def kd_S_has_8 : kt_D := ki_push (.int 1) <| kd_S_has_13
theorem kz_S_has_8 : kt_Snd l kt_shC kb_S_has 2 RX4 (some .boolean) 2 0 0 true true 8 kd_S_has_8 :=
  sd_iconst (pc := 8) (kt_tab_get kx_S_has 4 rfl) kc_i_1 <|
  sd_goto (pc := 9) (tgt := 13) (kt_tab_get kx_S_has 5 rfl) rfl kz_S_has_13
noncomputable def kd_S_has_0 : kt_D := ki_aload 0 <| ki_iload 1 <| ki_callV kt_shC 4 1 kf_S_pageOf <| ki_if_lt (ki_drop 1 (ki_drop 0 kd_S_has_12)) (ki_drop 1 (ki_drop 0 kd_S_has_8))
theorem kz_S_has_0 : kt_Snd l kt_shC kb_S_has 2 RX4 (some .boolean) 2 0 0 true true 0 kd_S_has_0 :=
  sd_aload_n (pc := 0) (kt_tab_get kx_S_has 0 rfl) rfl <|
  sd_iload_n (pc := 1) (kt_tab_get kx_S_has 1 rfl) rfl <|
  sd_callV (pc := 2) km_S_pageOf (by decide) kv_S_pageOf (ci := 4) kt_hc4 (by decide) (kt_tab_get kx_S_has 2 rfl) (kg_S_has_in _ (List.mem_of_getElem? (i := 4) rfl)) <|
  sd_if_lt (pc := 5) (tgt := 12) (kt_tab_get kx_S_has 3 rfl) rfl (sd_drop (k := 1) (sd_drop (k := 0) kz_S_has_12)) (sd_drop (k := 1) (sd_drop (k := 0) kz_S_has_8))
noncomputable def kf_S_has : kt_F := kt_run 2 kd_S_has_0
theorem km_S_has : kt_M l kt_shC ky_S_has kb_S_has 2 (some .boolean) 2 true kf_S_has := kt_method (by decide) rfl kz_S_has_0
noncomputable def kd_S_erasedPages_34 : kt_D := ki_iload 1 <| ki_iret
theorem kz_S_erasedPages_34 : kt_Snd l kt_shC kb_S_erasedPages 3 RX4 (some .int) 1 0 0 true true 34 kd_S_erasedPages_34 :=
  sd_iload_n (pc := 34) (kt_tab_get kx_S_erasedPages 21 rfl) rfl <|
  sd_iret (pc := 35) rfl (by decide) (kt_tab_get kx_S_erasedPages 22 rfl)
noncomputable def kd_S_erasedPages_26 (kh_4 : kt_D) : kt_D := ki_iadd <| ki_istore 1 <| ki_iinc 2 1 <| kh_4
theorem kz_S_erasedPages_26 {kh_4 : kt_D} (zh_4 : kt_Snd l kt_shC kb_S_erasedPages 3 RX4 (some .int) 1 0 0 true true 4 kh_4) : kt_Snd l kt_shC kb_S_erasedPages 3 RX4 (some .int) 1 0 0 true true 26 (kd_S_erasedPages_26 kh_4) :=
  sd_iadd (pc := 26) (kt_tab_get kx_S_erasedPages 17 rfl) <|
  sd_istore_n (pc := 27) (kt_tab_get kx_S_erasedPages 18 rfl) rfl (by decide) <|
  sd_iinc (pc := 28) (kt_tab_get kx_S_erasedPages 19 rfl) kc_i_1 (by decide) <|
  sd_goto (pc := 31) (tgt := 4) (kt_tab_get kx_S_erasedPages 20 rfl) rfl zh_4
noncomputable def kd_S_erasedPages_25 (kh_4 : kt_D) : kt_D := ki_push (.int 0) <| (kd_S_erasedPages_26 kh_4)
theorem kz_S_erasedPages_25 {kh_4 : kt_D} (zh_4 : kt_Snd l kt_shC kb_S_erasedPages 3 RX4 (some .int) 1 0 0 true true 4 kh_4) : kt_Snd l kt_shC kb_S_erasedPages 3 RX4 (some .int) 1 0 0 true true 25 (kd_S_erasedPages_25 kh_4) :=
  sd_iconst (pc := 25) (kt_tab_get kx_S_erasedPages 16 rfl) kc_i_0 <|
  (kz_S_erasedPages_26 zh_4)
noncomputable def kd_S_erasedPages_21 (kh_4 : kt_D) : kt_D := ki_push (.int 1) <| (kd_S_erasedPages_26 kh_4)
theorem kz_S_erasedPages_21 {kh_4 : kt_D} (zh_4 : kt_Snd l kt_shC kb_S_erasedPages 3 RX4 (some .int) 1 0 0 true true 4 kh_4) : kt_Snd l kt_shC kb_S_erasedPages 3 RX4 (some .int) 1 0 0 true true 21 (kd_S_erasedPages_21 kh_4) :=
  sd_iconst (pc := 21) (kt_tab_get kx_S_erasedPages 14 rfl) kc_i_1 <|
  sd_goto (pc := 22) (tgt := 26) (kt_tab_get kx_S_erasedPages 15 rfl) rfl (kz_S_erasedPages_26 zh_4)
noncomputable def kd_S_erasedPages_10 (kh_4 : kt_D) : kt_D := ki_iload 1 <| ki_aload 0 <| ki_iload 2 <| ki_push (.int 0) <| ki_callV kt_shC 4 2 kf_S_read <| ki_push (.int (-1)) <| ki_icmp_ne (ki_drop 1 (kd_S_erasedPages_25 kh_4)) (ki_drop 1 (kd_S_erasedPages_21 kh_4))
theorem kz_S_erasedPages_10 {kh_4 : kt_D} (zh_4 : kt_Snd l kt_shC kb_S_erasedPages 3 RX4 (some .int) 1 0 0 true true 4 kh_4) : kt_Snd l kt_shC kb_S_erasedPages 3 RX4 (some .int) 1 0 0 true true 10 (kd_S_erasedPages_10 kh_4) :=
  sd_iload_n (pc := 10) (kt_tab_get kx_S_erasedPages 7 rfl) rfl <|
  sd_aload_n (pc := 11) (kt_tab_get kx_S_erasedPages 8 rfl) rfl <|
  sd_iload_n (pc := 12) (kt_tab_get kx_S_erasedPages 9 rfl) rfl <|
  sd_iconst (pc := 13) (kt_tab_get kx_S_erasedPages 10 rfl) kc_i_0 <|
  sd_callV (pc := 14) km_S_read (by decide) kv_S_read (ci := 4) kt_hc4 (by decide) (kt_tab_get kx_S_erasedPages 11 rfl) (kg_S_erasedPages_in _ (List.mem_of_getElem? (i := 4) rfl)) <|
  sd_iconst (pc := 17) (kt_tab_get kx_S_erasedPages 12 rfl) kc_i_m1 <|
  sd_icmp_ne (pc := 18) (tgt := 25) (kt_tab_get kx_S_erasedPages 13 rfl) rfl (sd_drop (k := 1) (kz_S_erasedPages_25 zh_4)) (sd_drop (k := 1) (kz_S_erasedPages_21 zh_4))
noncomputable def kd_S_erasedPages_4b (kh_4 : kt_D) : kt_D := ki_iload 2 <| ki_push (.int 7) <| ki_icmp_ge (ki_drop 2 (ki_drop 0 kd_S_erasedPages_34)) (kd_S_erasedPages_10 kh_4)
theorem kz_S_erasedPages_4b {kh_4 : kt_D} (zh_4 : kt_Snd l kt_shC kb_S_erasedPages 3 RX4 (some .int) 1 0 0 true true 4 kh_4) : kt_Snd l kt_shC kb_S_erasedPages 3 RX4 (some .int) 1 0 0 true true 4 (kd_S_erasedPages_4b kh_4) :=
  sd_iload_n (pc := 4) (kt_tab_get kx_S_erasedPages 4 rfl) rfl <|
  sd_bipush (pc := 5) (kt_tab_get kx_S_erasedPages 5 rfl) kc_b_7 <|
  sd_icmp_ge (pc := 7) (tgt := 34) (kt_tab_get kx_S_erasedPages 6 rfl) rfl (sd_drop (k := 2) (sd_drop (k := 0) kz_S_erasedPages_34)) (kz_S_erasedPages_10 zh_4)
noncomputable def kd_S_erasedPages_4 (n : Nat) : kt_D := Nat.rec (fun _ _ _ => none) (fun _ ih => kd_S_erasedPages_4b ih) n
theorem kz_S_erasedPages_4 (n : Nat) : kt_Snd l kt_shC kb_S_erasedPages 3 RX4 (some .int) 1 0 0 true true 4 (kd_S_erasedPages_4 n) := by
  induction n with
  | zero => exact sd_fail
  | succ n ih => exact kz_S_erasedPages_4b ih
noncomputable def kd_S_erasedPages_0 : kt_D := ki_push (.int 0) <| ki_istore 1 <| ki_push (.int 0) <| ki_istore 2 <| (kd_S_erasedPages_4 100)
theorem kz_S_erasedPages_0 : kt_Snd l kt_shC kb_S_erasedPages 3 RX4 (some .int) 1 0 0 true true 0 kd_S_erasedPages_0 :=
  sd_iconst (pc := 0) (kt_tab_get kx_S_erasedPages 0 rfl) kc_i_0 <|
  sd_istore_n (pc := 1) (kt_tab_get kx_S_erasedPages 1 rfl) rfl (by decide) <|
  sd_iconst (pc := 2) (kt_tab_get kx_S_erasedPages 2 rfl) kc_i_0 <|
  sd_istore_n (pc := 3) (kt_tab_get kx_S_erasedPages 3 rfl) rfl (by decide) <|
  (kz_S_erasedPages_4 100)
noncomputable def kf_S_erasedPages : kt_F := kt_run 3 kd_S_erasedPages_0
theorem km_S_erasedPages : kt_M l kt_shC ky_S_erasedPages kb_S_erasedPages 3 (some .int) 1 true kf_S_erasedPages := kt_method (by decide) rfl kz_S_erasedPages_0
noncomputable def kd_S_labelBelow_39 : kt_D := ki_iload 2 <| ki_iret
theorem kz_S_labelBelow_39 : kt_Snd l kt_shC kb_S_labelBelow 5 RX4 (some .int) 1 0 0 true true 39 kd_S_labelBelow_39 :=
  sd_iload_n (pc := 39) (kt_tab_get kx_S_labelBelow 22 rfl) rfl <|
  sd_iret (pc := 40) rfl (by decide) (kt_tab_get kx_S_labelBelow 23 rfl)
noncomputable def kd_S_labelBelow_33 (kh_4 : kt_D) : kt_D := ki_iinc 3 1 <| kh_4
theorem kz_S_labelBelow_33 {kh_4 : kt_D} (zh_4 : kt_Snd l kt_shC kb_S_labelBelow 5 RX4 (some .int) 1 0 0 true true 4 kh_4) : kt_Snd l kt_shC kb_S_labelBelow 5 RX4 (some .int) 1 0 0 true true 33 (kd_S_labelBelow_33 kh_4) :=
  sd_iinc (pc := 33) (kt_tab_get kx_S_labelBelow 20 rfl) kc_i_1 (by decide) <|
  sd_goto (pc := 36) (tgt := 4) (kt_tab_get kx_S_labelBelow 21 rfl) rfl zh_4
noncomputable def kd_S_labelBelow_30 (kh_4 : kt_D) : kt_D := ki_iload 4 <| ki_istore 2 <| (ki_drop 4 (kd_S_labelBelow_33 kh_4))
theorem kz_S_labelBelow_30 {kh_4 : kt_D} (zh_4 : kt_Snd l kt_shC kb_S_labelBelow 5 RX4 (some .int) 1 0 0 true true 4 kh_4) : kt_Snd l kt_shC kb_S_labelBelow 5 RX4 (some .int) 1 0 0 true true 30 (kd_S_labelBelow_30 kh_4) :=
  sd_iload (pc := 30) (kt_tab_get kx_S_labelBelow 18 rfl) <|
  sd_istore_n (pc := 32) (kt_tab_get kx_S_labelBelow 19 rfl) rfl (by decide) <|
  (sd_drop (k := 4) (kz_S_labelBelow_33 zh_4))
noncomputable def kd_S_labelBelow_24 (kh_4 : kt_D) : kt_D := ki_iload 4 <| ki_iload 2 <| ki_icmp_le (ki_drop 4 (kd_S_labelBelow_33 kh_4)) (ki_drop 2 (kd_S_labelBelow_30 kh_4))
theorem kz_S_labelBelow_24 {kh_4 : kt_D} (zh_4 : kt_Snd l kt_shC kb_S_labelBelow 5 RX4 (some .int) 1 0 0 true true 4 kh_4) : kt_Snd l kt_shC kb_S_labelBelow 5 RX4 (some .int) 1 0 0 true true 24 (kd_S_labelBelow_24 kh_4) :=
  sd_iload (pc := 24) (kt_tab_get kx_S_labelBelow 15 rfl) <|
  sd_iload_n (pc := 26) (kt_tab_get kx_S_labelBelow 16 rfl) rfl <|
  sd_icmp_le (pc := 27) (tgt := 33) (kt_tab_get kx_S_labelBelow 17 rfl) rfl (sd_drop (k := 4) (kz_S_labelBelow_33 zh_4)) (sd_drop (k := 2) (kz_S_labelBelow_30 zh_4))
noncomputable def kd_S_labelBelow_10 (kh_4 : kt_D) : kt_D := ki_aload 0 <| ki_iload 3 <| ki_push (.int 0) <| ki_callV kt_shC 4 2 kf_S_read <| ki_istore 4 <| ki_iload 4 <| ki_iload 1 <| ki_icmp_ge (ki_drop 4 (kd_S_labelBelow_33 kh_4)) (kd_S_labelBelow_24 kh_4)
theorem kz_S_labelBelow_10 {kh_4 : kt_D} (zh_4 : kt_Snd l kt_shC kb_S_labelBelow 5 RX4 (some .int) 1 0 0 true true 4 kh_4) : kt_Snd l kt_shC kb_S_labelBelow 5 RX4 (some .int) 1 0 0 true true 10 (kd_S_labelBelow_10 kh_4) :=
  sd_aload_n (pc := 10) (kt_tab_get kx_S_labelBelow 7 rfl) rfl <|
  sd_iload_n (pc := 11) (kt_tab_get kx_S_labelBelow 8 rfl) rfl <|
  sd_iconst (pc := 12) (kt_tab_get kx_S_labelBelow 9 rfl) kc_i_0 <|
  sd_callV (pc := 13) km_S_read (by decide) kv_S_read (ci := 4) kt_hc4 (by decide) (kt_tab_get kx_S_labelBelow 10 rfl) (kg_S_labelBelow_in _ (List.mem_of_getElem? (i := 4) rfl)) <|
  sd_istore (pc := 16) (kt_tab_get kx_S_labelBelow 11 rfl) (by decide) <|
  sd_iload (pc := 18) (kt_tab_get kx_S_labelBelow 12 rfl) <|
  sd_iload_n (pc := 20) (kt_tab_get kx_S_labelBelow 13 rfl) rfl <|
  sd_icmp_ge (pc := 21) (tgt := 33) (kt_tab_get kx_S_labelBelow 14 rfl) rfl (sd_drop (k := 4) (kz_S_labelBelow_33 zh_4)) (kz_S_labelBelow_24 zh_4)
noncomputable def kd_S_labelBelow_4b (kh_4 : kt_D) : kt_D := ki_iload 3 <| ki_push (.int 7) <| ki_icmp_ge (ki_drop 3 (ki_drop 1 (ki_drop 0 kd_S_labelBelow_39))) (kd_S_labelBelow_10 kh_4)
theorem kz_S_labelBelow_4b {kh_4 : kt_D} (zh_4 : kt_Snd l kt_shC kb_S_labelBelow 5 RX4 (some .int) 1 0 0 true true 4 kh_4) : kt_Snd l kt_shC kb_S_labelBelow 5 RX4 (some .int) 1 0 0 true true 4 (kd_S_labelBelow_4b kh_4) :=
  sd_iload_n (pc := 4) (kt_tab_get kx_S_labelBelow 4 rfl) rfl <|
  sd_bipush (pc := 5) (kt_tab_get kx_S_labelBelow 5 rfl) kc_b_7 <|
  sd_icmp_ge (pc := 7) (tgt := 39) (kt_tab_get kx_S_labelBelow 6 rfl) rfl (sd_drop (k := 3) (sd_drop (k := 1) (sd_drop (k := 0) kz_S_labelBelow_39))) (kz_S_labelBelow_10 zh_4)
noncomputable def kd_S_labelBelow_4 (n : Nat) : kt_D := Nat.rec (fun _ _ _ => none) (fun _ ih => kd_S_labelBelow_4b ih) n
theorem kz_S_labelBelow_4 (n : Nat) : kt_Snd l kt_shC kb_S_labelBelow 5 RX4 (some .int) 1 0 0 true true 4 (kd_S_labelBelow_4 n) := by
  induction n with
  | zero => exact sd_fail
  | succ n ih => exact kz_S_labelBelow_4b ih
noncomputable def kd_S_labelBelow_0 : kt_D := ki_push (.int (-1)) <| ki_istore 2 <| ki_push (.int 0) <| ki_istore 3 <| (kd_S_labelBelow_4 100)
theorem kz_S_labelBelow_0 : kt_Snd l kt_shC kb_S_labelBelow 5 RX4 (some .int) 1 0 0 true true 0 kd_S_labelBelow_0 :=
  sd_iconst (pc := 0) (kt_tab_get kx_S_labelBelow 0 rfl) kc_i_m1 <|
  sd_istore_n (pc := 1) (kt_tab_get kx_S_labelBelow 1 rfl) rfl (by decide) <|
  sd_iconst (pc := 2) (kt_tab_get kx_S_labelBelow 2 rfl) kc_i_0 <|
  sd_istore_n (pc := 3) (kt_tab_get kx_S_labelBelow 3 rfl) rfl (by decide) <|
  (kz_S_labelBelow_4 100)
noncomputable def kf_S_labelBelow : kt_F := kt_run 5 kd_S_labelBelow_0
theorem km_S_labelBelow : kt_M l kt_shC ky_S_labelBelow kb_S_labelBelow 5 (some .int) 1 true kf_S_labelBelow := kt_method (by decide) rfl kz_S_labelBelow_0
noncomputable def kd_S_hasRoomFor_21 : kt_D := ki_zret
theorem kz_S_hasRoomFor_21 : kt_Snd l kt_shC kb_S_hasRoomFor 2 RX4 (some .boolean) 2 0 0 true true 21 kd_S_hasRoomFor_21 :=
  sd_zret (pc := 21) rfl (by decide) (kt_tab_get kx_S_hasRoomFor 11 rfl)
noncomputable def kd_S_hasRoomFor_16 : kt_D := ki_push (.int 1) <| kd_S_hasRoomFor_21
theorem kz_S_hasRoomFor_16 : kt_Snd l kt_shC kb_S_hasRoomFor 2 RX4 (some .boolean) 2 0 0 true true 16 kd_S_hasRoomFor_16 :=
  sd_iconst (pc := 16) (kt_tab_get kx_S_hasRoomFor 8 rfl) kc_i_1 <|
  sd_goto (pc := 17) (tgt := 21) (kt_tab_get kx_S_hasRoomFor 9 rfl) rfl kz_S_hasRoomFor_21
noncomputable def kd_S_hasRoomFor_20 : kt_D := ki_push (.int 0) <| kd_S_hasRoomFor_21
theorem kz_S_hasRoomFor_20 : kt_Snd l kt_shC kb_S_hasRoomFor 2 RX4 (some .boolean) 2 0 0 true true 20 kd_S_hasRoomFor_20 :=
  sd_iconst (pc := 20) (kt_tab_get kx_S_hasRoomFor 10 rfl) kc_i_0 <|
  kz_S_hasRoomFor_21
noncomputable def kd_S_hasRoomFor_8 : kt_D := ki_aload 0 <| ki_callV kt_shC 4 0 kf_S_erasedPages <| ki_push (.int 2) <| ki_icmp_lt (ki_drop 0 kd_S_hasRoomFor_20) (ki_drop 0 kd_S_hasRoomFor_16)
theorem kz_S_hasRoomFor_8 : kt_Snd l kt_shC kb_S_hasRoomFor 2 RX4 (some .boolean) 2 0 0 true true 8 kd_S_hasRoomFor_8 :=
  sd_aload_n (pc := 8) (kt_tab_get kx_S_hasRoomFor 4 rfl) rfl <|
  sd_callV (pc := 9) km_S_erasedPages (by decide) kv_S_erasedPages (ci := 4) kt_hc4 (by decide) (kt_tab_get kx_S_hasRoomFor 5 rfl) (kg_S_hasRoomFor_in _ (List.mem_of_getElem? (i := 4) rfl)) <|
  sd_iconst (pc := 12) (kt_tab_get kx_S_hasRoomFor 6 rfl) kc_i_2 <|
  sd_icmp_lt (pc := 13) (tgt := 20) (kt_tab_get kx_S_hasRoomFor 7 rfl) rfl (sd_drop (k := 0) kz_S_hasRoomFor_20) (sd_drop (k := 0) kz_S_hasRoomFor_16)
noncomputable def kd_S_hasRoomFor_0 : kt_D := ki_aload 0 <| ki_iload 1 <| ki_callV kt_shC 4 1 kf_S_pageOf <| ki_if_ge (ki_drop 1 (ki_drop 0 kd_S_hasRoomFor_16)) (ki_drop 1 kd_S_hasRoomFor_8)
theorem kz_S_hasRoomFor_0 : kt_Snd l kt_shC kb_S_hasRoomFor 2 RX4 (some .boolean) 2 0 0 true true 0 kd_S_hasRoomFor_0 :=
  sd_aload_n (pc := 0) (kt_tab_get kx_S_hasRoomFor 0 rfl) rfl <|
  sd_iload_n (pc := 1) (kt_tab_get kx_S_hasRoomFor 1 rfl) rfl <|
  sd_callV (pc := 2) km_S_pageOf (by decide) kv_S_pageOf (ci := 4) kt_hc4 (by decide) (kt_tab_get kx_S_hasRoomFor 2 rfl) (kg_S_hasRoomFor_in _ (List.mem_of_getElem? (i := 5) rfl)) <|
  sd_if_ge (pc := 5) (tgt := 16) (kt_tab_get kx_S_hasRoomFor 3 rfl) rfl (sd_drop (k := 1) (sd_drop (k := 0) kz_S_hasRoomFor_16)) (sd_drop (k := 1) kz_S_hasRoomFor_8)
noncomputable def kf_S_hasRoomFor : kt_F := kt_run 2 kd_S_hasRoomFor_0
theorem km_S_hasRoomFor : kt_M l kt_shC ky_S_hasRoomFor kb_S_hasRoomFor 2 (some .boolean) 2 true kf_S_hasRoomFor := kt_method (by decide) rfl kz_S_hasRoomFor_0
noncomputable def kd_S_firstErased_26 : kt_D := ki_push (.int (-1)) <| ki_iret
theorem kz_S_firstErased_26 : kt_Snd l kt_shC kb_S_firstErased 2 RX4 (some .int) 1 0 0 true true 26 kd_S_firstErased_26 :=
  sd_iconst (pc := 26) (kt_tab_get kx_S_firstErased 15 rfl) kc_i_m1 <|
  sd_iret (pc := 27) rfl (by decide) (kt_tab_get kx_S_firstErased 16 rfl)
noncomputable def kd_S_firstErased_20 (kh_2 : kt_D) : kt_D := ki_iinc 1 1 <| kh_2
theorem kz_S_firstErased_20 {kh_2 : kt_D} (zh_2 : kt_Snd l kt_shC kb_S_firstErased 2 RX4 (some .int) 1 0 0 true true 2 kh_2) : kt_Snd l kt_shC kb_S_firstErased 2 RX4 (some .int) 1 0 0 true true 20 (kd_S_firstErased_20 kh_2) :=
  sd_iinc (pc := 20) (kt_tab_get kx_S_firstErased 13 rfl) kc_i_1 (by decide) <|
  sd_goto (pc := 23) (tgt := 2) (kt_tab_get kx_S_firstErased 14 rfl) rfl zh_2
noncomputable def kd_S_firstErased_18 : kt_D := ki_iload 1 <| ki_iret
theorem kz_S_firstErased_18 : kt_Snd l kt_shC kb_S_firstErased 2 RX4 (some .int) 1 0 0 true true 18 kd_S_firstErased_18 :=
  sd_iload_n (pc := 18) (kt_tab_get kx_S_firstErased 11 rfl) rfl <|
  sd_iret (pc := 19) rfl (by decide) (kt_tab_get kx_S_firstErased 12 rfl)
noncomputable def kd_S_firstErased_8 (kh_2 : kt_D) : kt_D := ki_aload 0 <| ki_iload 1 <| ki_push (.int 0) <| ki_callV kt_shC 4 2 kf_S_read <| ki_push (.int (-1)) <| ki_icmp_ne (kd_S_firstErased_20 kh_2) (ki_drop 0 kd_S_firstErased_18)
theorem kz_S_firstErased_8 {kh_2 : kt_D} (zh_2 : kt_Snd l kt_shC kb_S_firstErased 2 RX4 (some .int) 1 0 0 true true 2 kh_2) : kt_Snd l kt_shC kb_S_firstErased 2 RX4 (some .int) 1 0 0 true true 8 (kd_S_firstErased_8 kh_2) :=
  sd_aload_n (pc := 8) (kt_tab_get kx_S_firstErased 5 rfl) rfl <|
  sd_iload_n (pc := 9) (kt_tab_get kx_S_firstErased 6 rfl) rfl <|
  sd_iconst (pc := 10) (kt_tab_get kx_S_firstErased 7 rfl) kc_i_0 <|
  sd_callV (pc := 11) km_S_read (by decide) kv_S_read (ci := 4) kt_hc4 (by decide) (kt_tab_get kx_S_firstErased 8 rfl) (kg_S_firstErased_in _ (List.mem_of_getElem? (i := 4) rfl)) <|
  sd_iconst (pc := 14) (kt_tab_get kx_S_firstErased 9 rfl) kc_i_m1 <|
  sd_icmp_ne (pc := 15) (tgt := 20) (kt_tab_get kx_S_firstErased 10 rfl) rfl (kz_S_firstErased_20 zh_2) (sd_drop (k := 0) kz_S_firstErased_18)
noncomputable def kd_S_firstErased_2b (kh_2 : kt_D) : kt_D := ki_iload 1 <| ki_push (.int 7) <| ki_icmp_ge (ki_drop 1 (ki_drop 0 kd_S_firstErased_26)) (kd_S_firstErased_8 kh_2)
theorem kz_S_firstErased_2b {kh_2 : kt_D} (zh_2 : kt_Snd l kt_shC kb_S_firstErased 2 RX4 (some .int) 1 0 0 true true 2 kh_2) : kt_Snd l kt_shC kb_S_firstErased 2 RX4 (some .int) 1 0 0 true true 2 (kd_S_firstErased_2b kh_2) :=
  sd_iload_n (pc := 2) (kt_tab_get kx_S_firstErased 2 rfl) rfl <|
  sd_bipush (pc := 3) (kt_tab_get kx_S_firstErased 3 rfl) kc_b_7 <|
  sd_icmp_ge (pc := 5) (tgt := 26) (kt_tab_get kx_S_firstErased 4 rfl) rfl (sd_drop (k := 1) (sd_drop (k := 0) kz_S_firstErased_26)) (kz_S_firstErased_8 zh_2)
noncomputable def kd_S_firstErased_2 (n : Nat) : kt_D := Nat.rec (fun _ _ _ => none) (fun _ ih => kd_S_firstErased_2b ih) n
theorem kz_S_firstErased_2 (n : Nat) : kt_Snd l kt_shC kb_S_firstErased 2 RX4 (some .int) 1 0 0 true true 2 (kd_S_firstErased_2 n) := by
  induction n with
  | zero => exact sd_fail
  | succ n ih => exact kz_S_firstErased_2b ih
noncomputable def kd_S_firstErased_0 : kt_D := ki_push (.int 0) <| ki_istore 1 <| (kd_S_firstErased_2 100)
theorem kz_S_firstErased_0 : kt_Snd l kt_shC kb_S_firstErased 2 RX4 (some .int) 1 0 0 true true 0 kd_S_firstErased_0 :=
  sd_iconst (pc := 0) (kt_tab_get kx_S_firstErased 0 rfl) kc_i_0 <|
  sd_istore_n (pc := 1) (kt_tab_get kx_S_firstErased 1 rfl) rfl (by decide) <|
  (kz_S_firstErased_2 100)
noncomputable def kf_S_firstErased : kt_F := kt_run 2 kd_S_firstErased_0
theorem km_S_firstErased : kt_M l kt_shC ky_S_firstErased kb_S_firstErased 2 (some .int) 1 true kf_S_firstErased := kt_method (by decide) rfl kz_S_firstErased_0
noncomputable def kd_S_spendWrite_27 : kt_D := ki_aload 0 <| ki_dup <| ki_get kt_shC 4 1 <| ki_push (.int 1) <| ki_iadd <| ki_put kt_shC 4 1 0 <| ki_push (.int 1) <| ki_zret
theorem kz_S_spendWrite_27 : kt_Snd l kt_shC kb_S_spendWrite 1 RX4 (some .boolean) 0 0 0 false false 27 kd_S_spendWrite_27 :=
  sd_aload_n (pc := 27) (kt_tab_get kx_S_spendWrite 15 rfl) rfl <|
  sd_dup (pc := 28) (kt_tab_get kx_S_spendWrite 16 rfl) <|
  sd_get (pc := 29) (k := 1) (ci := 4) kt_hc4 kt_hin4 (by decide) (kt_tab_get kx_S_spendWrite 17 rfl) (kg_S_spendWrite_in _ (List.mem_of_getElem? (i := 4) rfl)) <|
  sd_iconst (pc := 32) (kt_tab_get kx_S_spendWrite 18 rfl) kc_i_1 <|
  sd_iadd (pc := 33) (kt_tab_get kx_S_spendWrite 19 rfl) <|
  sd_put (pc := 34) (k := 1) (ci := 4) kt_hc4 kt_hin4 tyX4_ok nmX4 (by decide) rfl rfl (Or.inl ⟨rfl, rfl⟩) (kt_tab_get kx_S_spendWrite 20 rfl) (kg_S_spendWrite_in _ (List.mem_of_getElem? (i := 4) rfl)) <|
  sd_iconst (pc := 37) (kt_tab_get kx_S_spendWrite 21 rfl) kc_i_1 <|
  sd_zret (pc := 38) rfl (by decide) (kt_tab_get kx_S_spendWrite 22 rfl)
noncomputable def kd_S_spendWrite_17 : kt_D := ki_aload 0 <| ki_dup <| ki_get kt_shC 4 2 <| ki_push (.int 1) <| ki_isub <| ki_put kt_shC 4 2 0 <| kd_S_spendWrite_27
theorem kz_S_spendWrite_17 : kt_Snd l kt_shC kb_S_spendWrite 1 RX4 (some .boolean) 0 0 0 false false 17 kd_S_spendWrite_17 :=
  sd_aload_n (pc := 17) (kt_tab_get kx_S_spendWrite 9 rfl) rfl <|
  sd_dup (pc := 18) (kt_tab_get kx_S_spendWrite 10 rfl) <|
  sd_get (pc := 19) (k := 2) (ci := 4) kt_hc4 kt_hin4 (by decide) (kt_tab_get kx_S_spendWrite 11 rfl) (kg_S_spendWrite_in _ (List.mem_of_getElem? (i := 5) rfl)) <|
  sd_iconst (pc := 22) (kt_tab_get kx_S_spendWrite 12 rfl) kc_i_1 <|
  sd_isub (pc := 23) (kt_tab_get kx_S_spendWrite 13 rfl) <|
  sd_put (pc := 24) (k := 2) (ci := 4) kt_hc4 kt_hin4 tyX4_ok nmX4 (by decide) rfl rfl (Or.inl ⟨rfl, rfl⟩) (kt_tab_get kx_S_spendWrite 14 rfl) (kg_S_spendWrite_in _ (List.mem_of_getElem? (i := 5) rfl)) <|
  kz_S_spendWrite_27
noncomputable def kd_S_spendWrite_9 : kt_D := ki_aload 0 <| ki_get kt_shC 4 2 <| ki_push (.int (-1)) <| ki_icmp_eq kd_S_spendWrite_27 kd_S_spendWrite_17
theorem kz_S_spendWrite_9 : kt_Snd l kt_shC kb_S_spendWrite 1 RX4 (some .boolean) 0 0 0 false false 9 kd_S_spendWrite_9 :=
  sd_aload_n (pc := 9) (kt_tab_get kx_S_spendWrite 5 rfl) rfl <|
  sd_get (pc := 10) (k := 2) (ci := 4) kt_hc4 kt_hin4 (by decide) (kt_tab_get kx_S_spendWrite 6 rfl) (kg_S_spendWrite_in _ (List.mem_of_getElem? (i := 5) rfl)) <|
  sd_iconst (pc := 13) (kt_tab_get kx_S_spendWrite 7 rfl) kc_i_m1 <|
  sd_icmp_eq (pc := 14) (tgt := 27) (kt_tab_get kx_S_spendWrite 8 rfl) rfl kz_S_spendWrite_27 kz_S_spendWrite_17
noncomputable def kd_S_spendWrite_7 : kt_D := ki_push (.int 0) <| ki_zret
theorem kz_S_spendWrite_7 : kt_Snd l kt_shC kb_S_spendWrite 1 RX4 (some .boolean) 0 0 0 false false 7 kd_S_spendWrite_7 :=
  sd_iconst (pc := 7) (kt_tab_get kx_S_spendWrite 3 rfl) kc_i_0 <|
  sd_zret (pc := 8) rfl (by decide) (kt_tab_get kx_S_spendWrite 4 rfl)
noncomputable def kd_S_spendWrite_0 : kt_D := ki_aload 0 <| ki_get kt_shC 4 2 <| ki_if_ne kd_S_spendWrite_9 (ki_drop 0 kd_S_spendWrite_7)
theorem kz_S_spendWrite_0 : kt_Snd l kt_shC kb_S_spendWrite 1 RX4 (some .boolean) 0 0 0 false false 0 kd_S_spendWrite_0 :=
  sd_aload_n (pc := 0) (kt_tab_get kx_S_spendWrite 0 rfl) rfl <|
  sd_get (pc := 1) (k := 2) (ci := 4) kt_hc4 kt_hin4 (by decide) (kt_tab_get kx_S_spendWrite 1 rfl) (kg_S_spendWrite_in _ (List.mem_of_getElem? (i := 5) rfl)) <|
  sd_if_ne (pc := 4) (tgt := 9) (kt_tab_get kx_S_spendWrite 2 rfl) rfl kz_S_spendWrite_9 (sd_drop (k := 0) kz_S_spendWrite_7)
noncomputable def kf_S_spendWrite : kt_F := kt_run 1 kd_S_spendWrite_0
theorem km_S_spendWrite : kt_M l kt_shC ky_S_spendWrite kb_S_spendWrite 1 (some .boolean) 0 false kf_S_spendWrite := kt_method (by decide) rfl kz_S_spendWrite_0
noncomputable def kd_S_write_27 : kt_D := ki_push (.int 0) <| ki_zret
theorem kz_S_write_27 : kt_Snd l kt_shC kb_S_write 4 RX4 (some .boolean) 1 0 0 false false 27 kd_S_write_27 :=
  sd_iconst (pc := 27) (kt_tab_get kx_S_write 13 rfl) kc_i_0 <|
  sd_zret (pc := 28) rfl (by decide) (kt_tab_get kx_S_write 14 rfl)
noncomputable def kd_S_write_29 : kt_D := ki_aload 0 <| ki_get kt_shC 4 0 <| ki_iload 1 <| ki_push (.int 6) <| ki_imul <| ki_iload 2 <| ki_iadd <| ki_iload 3 <| ki_iast kt_shC <| ki_push (.int 1) <| ki_zret
theorem kz_S_write_29 : kt_Snd l kt_shC kb_S_write 4 RX4 (some .boolean) 1 0 0 false false 29 kd_S_write_29 :=
  sd_aload_n (pc := 29) (kt_tab_get kx_S_write 15 rfl) rfl <|
  sd_get (pc := 30) (k := 0) (ci := 4) kt_hc4 kt_hin4 (by decide) (kt_tab_get kx_S_write 16 rfl) (kg_S_write_in _ (List.mem_of_getElem? (i := 4) rfl)) <|
  sd_iload_n (pc := 33) (kt_tab_get kx_S_write 17 rfl) rfl <|
  sd_bipush (pc := 34) (kt_tab_get kx_S_write 18 rfl) kc_b_6 <|
  sd_imul (pc := 36) (kt_tab_get kx_S_write 19 rfl) <|
  sd_iload_n (pc := 37) (kt_tab_get kx_S_write 20 rfl) rfl <|
  sd_iadd (pc := 38) (kt_tab_get kx_S_write 21 rfl) <|
  sd_iload_n (pc := 39) (kt_tab_get kx_S_write 22 rfl) rfl <|
  sd_iast (pc := 40) (kt_tab_get kx_S_write 23 rfl) <|
  sd_iconst (pc := 41) (kt_tab_get kx_S_write 24 rfl) kc_i_1 <|
  sd_zret (pc := 42) rfl (by decide) (kt_tab_get kx_S_write 25 rfl)
noncomputable def kd_S_write_20 : kt_D := ki_aload 0 <| ki_callV kt_shC 4 0 kf_S_spendWrite <| ki_if_ne kd_S_write_29 (ki_drop 3 (ki_drop 2 (ki_drop 1 (ki_drop 0 kd_S_write_27))))
theorem kz_S_write_20 : kt_Snd l kt_shC kb_S_write 4 RX4 (some .boolean) 1 0 0 false false 20 kd_S_write_20 :=
  sd_aload_n (pc := 20) (kt_tab_get kx_S_write 10 rfl) rfl <|
  sd_callV (pc := 21) km_S_spendWrite (by decide) kv_S_spendWrite (ci := 4) kt_hc4 (by decide) (kt_tab_get kx_S_write 11 rfl) (kg_S_write_in _ (List.mem_of_getElem? (i := 5) rfl)) <|
  sd_if_ne (pc := 24) (tgt := 29) (kt_tab_get kx_S_write 12 rfl) rfl kz_S_write_29 (sd_drop (k := 3) (sd_drop (k := 2) (sd_drop (k := 1) (sd_drop (k := 0) kz_S_write_27))))
noncomputable def kd_S_write_14 : kt_D := ki_iload 2 <| ki_push (.int 6) <| ki_icmp_ge (ki_drop 3 (ki_drop 2 (ki_drop 1 (ki_drop 0 kd_S_write_27)))) kd_S_write_20
theorem kz_S_write_14 : kt_Snd l kt_shC kb_S_write 4 RX4 (some .boolean) 1 0 0 false false 14 kd_S_write_14 :=
  sd_iload_n (pc := 14) (kt_tab_get kx_S_write 7 rfl) rfl <|
  sd_bipush (pc := 15) (kt_tab_get kx_S_write 8 rfl) kc_b_6 <|
  sd_icmp_ge (pc := 17) (tgt := 27) (kt_tab_get kx_S_write 9 rfl) rfl (sd_drop (k := 3) (sd_drop (k := 2) (sd_drop (k := 1) (sd_drop (k := 0) kz_S_write_27)))) kz_S_write_20
noncomputable def kd_S_write_10 : kt_D := ki_iload 2 <| ki_if_lt (ki_drop 3 (ki_drop 2 (ki_drop 1 (ki_drop 0 kd_S_write_27)))) kd_S_write_14
theorem kz_S_write_10 : kt_Snd l kt_shC kb_S_write 4 RX4 (some .boolean) 1 0 0 false false 10 kd_S_write_10 :=
  sd_iload_n (pc := 10) (kt_tab_get kx_S_write 5 rfl) rfl <|
  sd_if_lt (pc := 11) (tgt := 27) (kt_tab_get kx_S_write 6 rfl) rfl (sd_drop (k := 3) (sd_drop (k := 2) (sd_drop (k := 1) (sd_drop (k := 0) kz_S_write_27)))) kz_S_write_14
noncomputable def kd_S_write_4 : kt_D := ki_iload 1 <| ki_push (.int 7) <| ki_icmp_ge (ki_drop 3 (ki_drop 2 (ki_drop 1 (ki_drop 0 kd_S_write_27)))) kd_S_write_10
theorem kz_S_write_4 : kt_Snd l kt_shC kb_S_write 4 RX4 (some .boolean) 1 0 0 false false 4 kd_S_write_4 :=
  sd_iload_n (pc := 4) (kt_tab_get kx_S_write 2 rfl) rfl <|
  sd_bipush (pc := 5) (kt_tab_get kx_S_write 3 rfl) kc_b_7 <|
  sd_icmp_ge (pc := 7) (tgt := 27) (kt_tab_get kx_S_write 4 rfl) rfl (sd_drop (k := 3) (sd_drop (k := 2) (sd_drop (k := 1) (sd_drop (k := 0) kz_S_write_27)))) kz_S_write_10
noncomputable def kd_S_write_0 : kt_D := ki_iload 1 <| ki_if_lt (ki_drop 3 (ki_drop 2 (ki_drop 1 (ki_drop 0 kd_S_write_27)))) kd_S_write_4
theorem kz_S_write_0 : kt_Snd l kt_shC kb_S_write 4 RX4 (some .boolean) 1 0 0 false false 0 kd_S_write_0 :=
  sd_iload_n (pc := 0) (kt_tab_get kx_S_write 0 rfl) rfl <|
  sd_if_lt (pc := 1) (tgt := 27) (kt_tab_get kx_S_write 1 rfl) rfl (sd_drop (k := 3) (sd_drop (k := 2) (sd_drop (k := 1) (sd_drop (k := 0) kz_S_write_27)))) kz_S_write_4
noncomputable def kf_S_write : kt_F := kt_run 4 kd_S_write_0
theorem km_S_write : kt_M l kt_shC ky_S_write kb_S_write 4 (some .boolean) 1 false kf_S_write := kt_method (by decide) rfl kz_S_write_0
noncomputable def kd_S_sealOf_30 : kt_D := ki_iload 2 <| ki_push (.int 2147483647) <| ki_iand <| ki_iret
theorem kz_S_sealOf_30 : kt_Snd l kt_shC kb_S_sealOf 4 RX4 (some .int) 1 0 0 true true 30 kd_S_sealOf_30 :=
  sd_iload_n (pc := 30) (kt_tab_get kx_S_sealOf 20 rfl) rfl <|
  sd_ldc (pc := 31) (kt_tab_get kx_S_sealOf 21 rfl) (kg_S_sealOf_in _ (List.mem_of_getElem? (i := 4) rfl)) <|
  sd_iand (pc := 33) (kt_tab_get kx_S_sealOf 22 rfl) <|
  sd_iret (pc := 34) rfl (by decide) (kt_tab_get kx_S_sealOf 23 rfl)
noncomputable def kd_S_sealOf_10 (kh_5 : kt_D) : kt_D := ki_iload 2 <| ki_aload 0 <| ki_iload 1 <| ki_iload 3 <| ki_callV kt_shC 4 2 kf_S_read <| ki_ixor <| ki_push (.int 16777619) <| ki_imul <| ki_push (.int 1) <| ki_iadd <| ki_istore 2 <| ki_iinc 3 1 <| kh_5
theorem kz_S_sealOf_10 {kh_5 : kt_D} (zh_5 : kt_Snd l kt_shC kb_S_sealOf 4 RX4 (some .int) 1 0 0 true true 5 kh_5) : kt_Snd l kt_shC kb_S_sealOf 4 RX4 (some .int) 1 0 0 true true 10 (kd_S_sealOf_10 kh_5) :=
  sd_iload_n (pc := 10) (kt_tab_get kx_S_sealOf 7 rfl) rfl <|
  sd_aload_n (pc := 11) (kt_tab_get kx_S_sealOf 8 rfl) rfl <|
  sd_iload_n (pc := 12) (kt_tab_get kx_S_sealOf 9 rfl) rfl <|
  sd_iload_n (pc := 13) (kt_tab_get kx_S_sealOf 10 rfl) rfl <|
  sd_callV (pc := 14) km_S_read (by decide) kv_S_read (ci := 4) kt_hc4 (by decide) (kt_tab_get kx_S_sealOf 11 rfl) (kg_S_sealOf_in _ (List.mem_of_getElem? (i := 5) rfl)) <|
  sd_ixor (pc := 17) (kt_tab_get kx_S_sealOf 12 rfl) <|
  sd_ldc (pc := 18) (kt_tab_get kx_S_sealOf 13 rfl) (kg_S_sealOf_in _ (List.mem_of_getElem? (i := 6) rfl)) <|
  sd_imul (pc := 20) (kt_tab_get kx_S_sealOf 14 rfl) <|
  sd_iconst (pc := 21) (kt_tab_get kx_S_sealOf 15 rfl) kc_i_1 <|
  sd_iadd (pc := 22) (kt_tab_get kx_S_sealOf 16 rfl) <|
  sd_istore_n (pc := 23) (kt_tab_get kx_S_sealOf 17 rfl) rfl (by decide) <|
  sd_iinc (pc := 24) (kt_tab_get kx_S_sealOf 18 rfl) kc_i_1 (by decide) <|
  sd_goto (pc := 27) (tgt := 5) (kt_tab_get kx_S_sealOf 19 rfl) rfl zh_5
noncomputable def kd_S_sealOf_5b (kh_5 : kt_D) : kt_D := ki_iload 3 <| ki_push (.int 5) <| ki_icmp_ge (ki_drop 3 (ki_drop 1 (ki_drop 0 kd_S_sealOf_30))) (kd_S_sealOf_10 kh_5)
theorem kz_S_sealOf_5b {kh_5 : kt_D} (zh_5 : kt_Snd l kt_shC kb_S_sealOf 4 RX4 (some .int) 1 0 0 true true 5 kh_5) : kt_Snd l kt_shC kb_S_sealOf 4 RX4 (some .int) 1 0 0 true true 5 (kd_S_sealOf_5b kh_5) :=
  sd_iload_n (pc := 5) (kt_tab_get kx_S_sealOf 4 rfl) rfl <|
  sd_iconst (pc := 6) (kt_tab_get kx_S_sealOf 5 rfl) kc_i_5 <|
  sd_icmp_ge (pc := 7) (tgt := 30) (kt_tab_get kx_S_sealOf 6 rfl) rfl (sd_drop (k := 3) (sd_drop (k := 1) (sd_drop (k := 0) kz_S_sealOf_30))) (kz_S_sealOf_10 zh_5)
noncomputable def kd_S_sealOf_5 (n : Nat) : kt_D := Nat.rec (fun _ _ _ => none) (fun _ ih => kd_S_sealOf_5b ih) n
theorem kz_S_sealOf_5 (n : Nat) : kt_Snd l kt_shC kb_S_sealOf 4 RX4 (some .int) 1 0 0 true true 5 (kd_S_sealOf_5 n) := by
  induction n with
  | zero => exact sd_fail
  | succ n ih => exact kz_S_sealOf_5b ih
noncomputable def kd_S_sealOf_0 : kt_D := ki_push (.int 7) <| ki_istore 2 <| ki_push (.int 0) <| ki_istore 3 <| (kd_S_sealOf_5 100)
theorem kz_S_sealOf_0 : kt_Snd l kt_shC kb_S_sealOf 4 RX4 (some .int) 1 0 0 true true 0 kd_S_sealOf_0 :=
  sd_bipush (pc := 0) (kt_tab_get kx_S_sealOf 0 rfl) kc_b_7 <|
  sd_istore_n (pc := 2) (kt_tab_get kx_S_sealOf 1 rfl) rfl (by decide) <|
  sd_iconst (pc := 3) (kt_tab_get kx_S_sealOf 2 rfl) kc_i_0 <|
  sd_istore_n (pc := 4) (kt_tab_get kx_S_sealOf 3 rfl) rfl (by decide) <|
  (kz_S_sealOf_5 100)
noncomputable def kf_S_sealOf : kt_F := kt_run 4 kd_S_sealOf_0
theorem km_S_sealOf : kt_M l kt_shC ky_S_sealOf kb_S_sealOf 4 (some .int) 1 true kf_S_sealOf := kt_method (by decide) rfl kz_S_sealOf_0
noncomputable def kd_S_erase_17 : kt_D := ki_push (.int 0) <| ki_zret
theorem kz_S_erase_17 : kt_Snd l kt_shC kb_S_erase 3 RX4 (some .boolean) 1 0 0 false false 17 kd_S_erase_17 :=
  sd_iconst (pc := 17) (kt_tab_get kx_S_erase 8 rfl) kc_i_0 <|
  sd_zret (pc := 18) rfl (by decide) (kt_tab_get kx_S_erase 9 rfl)
noncomputable def kd_S_erase_45 : kt_D := ki_push (.int 1) <| ki_zret
theorem kz_S_erase_45 : kt_Snd l kt_shC kb_S_erase 3 RX4 (some .boolean) 1 0 0 false false 45 kd_S_erase_45 :=
  sd_iconst (pc := 45) (kt_tab_get kx_S_erase 26 rfl) kc_i_1 <|
  sd_zret (pc := 46) rfl (by decide) (kt_tab_get kx_S_erase 27 rfl)
noncomputable def kd_S_erase_27 (kh_21 : kt_D) : kt_D := ki_aload 0 <| ki_get kt_shC 4 0 <| ki_iload 1 <| ki_push (.int 6) <| ki_imul <| ki_iload 2 <| ki_iadd <| ki_push (.int (-1)) <| ki_iast kt_shC <| ki_iinc 2 1 <| kh_21
theorem kz_S_erase_27 {kh_21 : kt_D} (zh_21 : kt_Snd l kt_shC kb_S_erase 3 RX4 (some .boolean) 1 0 0 false false 21 kh_21) : kt_Snd l kt_shC kb_S_erase 3 RX4 (some .boolean) 1 0 0 false false 27 (kd_S_erase_27 kh_21) :=
  sd_aload_n (pc := 27) (kt_tab_get kx_S_erase 15 rfl) rfl <|
  sd_get (pc := 28) (k := 0) (ci := 4) kt_hc4 kt_hin4 (by decide) (kt_tab_get kx_S_erase 16 rfl) (kg_S_erase_in _ (List.mem_of_getElem? (i := 4) rfl)) <|
  sd_iload_n (pc := 31) (kt_tab_get kx_S_erase 17 rfl) rfl <|
  sd_bipush (pc := 32) (kt_tab_get kx_S_erase 18 rfl) kc_b_6 <|
  sd_imul (pc := 34) (kt_tab_get kx_S_erase 19 rfl) <|
  sd_iload_n (pc := 35) (kt_tab_get kx_S_erase 20 rfl) rfl <|
  sd_iadd (pc := 36) (kt_tab_get kx_S_erase 21 rfl) <|
  sd_iconst (pc := 37) (kt_tab_get kx_S_erase 22 rfl) kc_i_m1 <|
  sd_iast (pc := 38) (kt_tab_get kx_S_erase 23 rfl) <|
  sd_iinc (pc := 39) (kt_tab_get kx_S_erase 24 rfl) kc_i_1 (by decide) <|
  sd_goto (pc := 42) (tgt := 21) (kt_tab_get kx_S_erase 25 rfl) rfl zh_21
noncomputable def kd_S_erase_21b (kh_21 : kt_D) : kt_D := ki_iload 2 <| ki_push (.int 6) <| ki_icmp_ge (ki_drop 2 (ki_drop 1 (ki_drop 0 kd_S_erase_45))) (kd_S_erase_27 kh_21)
theorem kz_S_erase_21b {kh_21 : kt_D} (zh_21 : kt_Snd l kt_shC kb_S_erase 3 RX4 (some .boolean) 1 0 0 false false 21 kh_21) : kt_Snd l kt_shC kb_S_erase 3 RX4 (some .boolean) 1 0 0 false false 21 (kd_S_erase_21b kh_21) :=
  sd_iload_n (pc := 21) (kt_tab_get kx_S_erase 12 rfl) rfl <|
  sd_bipush (pc := 22) (kt_tab_get kx_S_erase 13 rfl) kc_b_6 <|
  sd_icmp_ge (pc := 24) (tgt := 45) (kt_tab_get kx_S_erase 14 rfl) rfl (sd_drop (k := 2) (sd_drop (k := 1) (sd_drop (k := 0) kz_S_erase_45))) (kz_S_erase_27 zh_21)
noncomputable def kd_S_erase_21 (n : Nat) : kt_D := Nat.rec (fun _ _ _ => none) (fun _ ih => kd_S_erase_21b ih) n
theorem kz_S_erase_21 (n : Nat) : kt_Snd l kt_shC kb_S_erase 3 RX4 (some .boolean) 1 0 0 false false 21 (kd_S_erase_21 n) := by
  induction n with
  | zero => exact sd_fail
  | succ n ih => exact kz_S_erase_21b ih
noncomputable def kd_S_erase_19 : kt_D := ki_push (.int 0) <| ki_istore 2 <| (kd_S_erase_21 100)
theorem kz_S_erase_19 : kt_Snd l kt_shC kb_S_erase 3 RX4 (some .boolean) 1 0 0 false false 19 kd_S_erase_19 :=
  sd_iconst (pc := 19) (kt_tab_get kx_S_erase 10 rfl) kc_i_0 <|
  sd_istore_n (pc := 20) (kt_tab_get kx_S_erase 11 rfl) rfl (by decide) <|
  (kz_S_erase_21 100)
noncomputable def kd_S_erase_10 : kt_D := ki_aload 0 <| ki_callV kt_shC 4 0 kf_S_spendWrite <| ki_if_ne kd_S_erase_19 (ki_drop 1 (ki_drop 0 kd_S_erase_17))
theorem kz_S_erase_10 : kt_Snd l kt_shC kb_S_erase 3 RX4 (some .boolean) 1 0 0 false false 10 kd_S_erase_10 :=
  sd_aload_n (pc := 10) (kt_tab_get kx_S_erase 5 rfl) rfl <|
  sd_callV (pc := 11) km_S_spendWrite (by decide) kv_S_spendWrite (ci := 4) kt_hc4 (by decide) (kt_tab_get kx_S_erase 6 rfl) (kg_S_erase_in _ (List.mem_of_getElem? (i := 5) rfl)) <|
  sd_if_ne (pc := 14) (tgt := 19) (kt_tab_get kx_S_erase 7 rfl) rfl kz_S_erase_19 (sd_drop (k := 1) (sd_drop (k := 0) kz_S_erase_17))
noncomputable def kd_S_erase_4 : kt_D := ki_iload 1 <| ki_push (.int 7) <| ki_icmp_ge (ki_drop 1 (ki_drop 0 kd_S_erase_17)) kd_S_erase_10
theorem kz_S_erase_4 : kt_Snd l kt_shC kb_S_erase 3 RX4 (some .boolean) 1 0 0 false false 4 kd_S_erase_4 :=
  sd_iload_n (pc := 4) (kt_tab_get kx_S_erase 2 rfl) rfl <|
  sd_bipush (pc := 5) (kt_tab_get kx_S_erase 3 rfl) kc_b_7 <|
  sd_icmp_ge (pc := 7) (tgt := 17) (kt_tab_get kx_S_erase 4 rfl) rfl (sd_drop (k := 1) (sd_drop (k := 0) kz_S_erase_17)) kz_S_erase_10
noncomputable def kd_S_erase_0 : kt_D := ki_iload 1 <| ki_if_lt (ki_drop 1 (ki_drop 0 kd_S_erase_17)) kd_S_erase_4
theorem kz_S_erase_0 : kt_Snd l kt_shC kb_S_erase 3 RX4 (some .boolean) 1 0 0 false false 0 kd_S_erase_0 :=
  sd_iload_n (pc := 0) (kt_tab_get kx_S_erase 0 rfl) rfl <|
  sd_if_lt (pc := 1) (tgt := 17) (kt_tab_get kx_S_erase 1 rfl) rfl (sd_drop (k := 1) (sd_drop (k := 0) kz_S_erase_17)) kz_S_erase_4
noncomputable def kf_S_erase : kt_F := kt_run 3 kd_S_erase_0
theorem km_S_erase : kt_M l kt_shC ky_S_erase kb_S_erase 3 (some .boolean) 1 false kf_S_erase := kt_method (by decide) rfl kz_S_erase_0
noncomputable def kd_S_put_128 : kt_D := ki_zret
theorem kz_S_put_128 : kt_Snd l kt_shC kb_S_put 9 RX4 (some .boolean) 2 0 0 false false 128 kd_S_put_128 :=
  sd_zret (pc := 128) rfl (by decide) (kt_tab_get kx_S_put 68 rfl)
noncomputable def kd_S_put_127 : kt_D := ki_push (.int 0) <| kd_S_put_128
theorem kz_S_put_127 : kt_Snd l kt_shC kb_S_put 9 RX4 (some .boolean) 2 0 0 false false 127 kd_S_put_127 :=
  sd_iconst (pc := 127) (kt_tab_get kx_S_put 67 rfl) kc_i_0 <|
  kz_S_put_128
noncomputable def kd_S_put_123 : kt_D := ki_push (.int 1) <| kd_S_put_128
theorem kz_S_put_123 : kt_Snd l kt_shC kb_S_put 9 RX4 (some .boolean) 2 0 0 false false 123 kd_S_put_123 :=
  sd_iconst (pc := 123) (kt_tab_get kx_S_put 65 rfl) kc_i_1 <|
  sd_goto (pc := 124) (tgt := 128) (kt_tab_get kx_S_put 66 rfl) rfl kz_S_put_128
noncomputable def kd_S_put_114 : kt_D := ki_aload 0 <| ki_iload 6 <| ki_callV kt_shC 4 1 kf_S_erase <| ki_if_eq (ki_drop 6 (ki_drop 0 kd_S_put_127)) (ki_drop 6 (ki_drop 0 kd_S_put_123))
theorem kz_S_put_114 : kt_Snd l kt_shC kb_S_put 9 RX4 (some .boolean) 2 0 0 false false 114 kd_S_put_114 :=
  sd_aload_n (pc := 114) (kt_tab_get kx_S_put 61 rfl) rfl <|
  sd_iload (pc := 115) (kt_tab_get kx_S_put 62 rfl) <|
  sd_callV (pc := 117) km_S_erase (by decide) kv_S_erase (ci := 4) kt_hc4 (by decide) (kt_tab_get kx_S_put 63 rfl) (kg_S_put_in _ (List.mem_of_getElem? (i := 4) rfl)) <|
  sd_if_eq (pc := 120) (tgt := 127) (kt_tab_get kx_S_put 64 rfl) rfl (sd_drop (k := 6) (sd_drop (k := 0) kz_S_put_127)) (sd_drop (k := 6) (sd_drop (k := 0) kz_S_put_123))
noncomputable def kd_S_put_109 : kt_D := ki_iload 6 <| ki_if_lt (ki_drop 6 (ki_drop 0 kd_S_put_123)) kd_S_put_114
theorem kz_S_put_109 : kt_Snd l kt_shC kb_S_put 9 RX4 (some .boolean) 2 0 0 false false 109 kd_S_put_109 :=
  sd_iload (pc := 109) (kt_tab_get kx_S_put 59 rfl) <|
  sd_if_lt (pc := 111) (tgt := 123) (kt_tab_get kx_S_put 60 rfl) rfl (sd_drop (k := 6) (sd_drop (k := 0) kz_S_put_123)) kz_S_put_114
noncomputable def kd_S_put_93 : kt_D := ki_aload 0 <| ki_iload 7 <| ki_push (.int 5) <| ki_aload 0 <| ki_iload 7 <| ki_callV kt_shC 4 1 kf_S_sealOf <| ki_callV kt_shC 4 3 kf_S_write <| ki_if_eq (ki_drop 7 (ki_drop 6 (ki_drop 0 kd_S_put_127))) (ki_drop 7 kd_S_put_109)
theorem kz_S_put_93 : kt_Snd l kt_shC kb_S_put 9 RX4 (some .boolean) 2 0 0 false false 93 kd_S_put_93 :=
  sd_aload_n (pc := 93) (kt_tab_get kx_S_put 51 rfl) rfl <|
  sd_iload (pc := 94) (kt_tab_get kx_S_put 52 rfl) <|
  sd_iconst (pc := 96) (kt_tab_get kx_S_put 53 rfl) kc_i_5 <|
  sd_aload_n (pc := 97) (kt_tab_get kx_S_put 54 rfl) rfl <|
  sd_iload (pc := 98) (kt_tab_get kx_S_put 55 rfl) <|
  sd_callV (pc := 100) km_S_sealOf (by decide) kv_S_sealOf (ci := 4) kt_hc4 (by decide) (kt_tab_get kx_S_put 56 rfl) (kg_S_put_in _ (List.mem_of_getElem? (i := 5) rfl)) <|
  sd_callV (pc := 103) km_S_write (by decide) kv_S_write (ci := 4) kt_hc4 (by decide) (kt_tab_get kx_S_put 57 rfl) (kg_S_put_in _ (List.mem_of_getElem? (i := 6) rfl)) <|
  sd_if_eq (pc := 106) (tgt := 127) (kt_tab_get kx_S_put 58 rfl) rfl (sd_drop (k := 7) (sd_drop (k := 6) (sd_drop (k := 0) kz_S_put_127))) (sd_drop (k := 7) kz_S_put_109)
noncomputable def kd_S_put_81 : kt_D := ki_aload 0 <| ki_iload 7 <| ki_push (.int 4) <| ki_iload 5 <| ki_callV kt_shC 4 3 kf_S_write <| ki_if_eq (ki_drop 7 (ki_drop 6 (ki_drop 5 (ki_drop 0 kd_S_put_127)))) (ki_drop 5 kd_S_put_93)
theorem kz_S_put_81 : kt_Snd l kt_shC kb_S_put 9 RX4 (some .boolean) 2 0 0 false false 81 kd_S_put_81 :=
  sd_aload_n (pc := 81) (kt_tab_get kx_S_put 45 rfl) rfl <|
  sd_iload (pc := 82) (kt_tab_get kx_S_put 46 rfl) <|
  sd_iconst (pc := 84) (kt_tab_get kx_S_put 47 rfl) kc_i_4 <|
  sd_iload (pc := 85) (kt_tab_get kx_S_put 48 rfl) <|
  sd_callV (pc := 87) km_S_write (by decide) kv_S_write (ci := 4) kt_hc4 (by decide) (kt_tab_get kx_S_put 49 rfl) (kg_S_put_in _ (List.mem_of_getElem? (i := 6) rfl)) <|
  sd_if_eq (pc := 90) (tgt := 127) (kt_tab_get kx_S_put 50 rfl) rfl (sd_drop (k := 7) (sd_drop (k := 6) (sd_drop (k := 5) (sd_drop (k := 0) kz_S_put_127)))) (sd_drop (k := 5) kz_S_put_93)
noncomputable def kd_S_put_69 : kt_D := ki_aload 0 <| ki_iload 7 <| ki_push (.int 3) <| ki_iload 4 <| ki_callV kt_shC 4 3 kf_S_write <| ki_if_eq (ki_drop 7 (ki_drop 6 (ki_drop 5 (ki_drop 4 (ki_drop 0 kd_S_put_127))))) (ki_drop 4 kd_S_put_81)
theorem kz_S_put_69 : kt_Snd l kt_shC kb_S_put 9 RX4 (some .boolean) 2 0 0 false false 69 kd_S_put_69 :=
  sd_aload_n (pc := 69) (kt_tab_get kx_S_put 39 rfl) rfl <|
  sd_iload (pc := 70) (kt_tab_get kx_S_put 40 rfl) <|
  sd_iconst (pc := 72) (kt_tab_get kx_S_put 41 rfl) kc_i_3 <|
  sd_iload (pc := 73) (kt_tab_get kx_S_put 42 rfl) <|
  sd_callV (pc := 75) km_S_write (by decide) kv_S_write (ci := 4) kt_hc4 (by decide) (kt_tab_get kx_S_put 43 rfl) (kg_S_put_in _ (List.mem_of_getElem? (i := 6) rfl)) <|
  sd_if_eq (pc := 78) (tgt := 127) (kt_tab_get kx_S_put 44 rfl) rfl (sd_drop (k := 7) (sd_drop (k := 6) (sd_drop (k := 5) (sd_drop (k := 4) (sd_drop (k := 0) kz_S_put_127))))) (sd_drop (k := 4) kz_S_put_81)
noncomputable def kd_S_put_58 : kt_D := ki_aload 0 <| ki_iload 7 <| ki_push (.int 2) <| ki_iload 3 <| ki_callV kt_shC 4 3 kf_S_write <| ki_if_eq (ki_drop 7 (ki_drop 6 (ki_drop 5 (ki_drop 4 (ki_drop 3 (ki_drop 0 kd_S_put_127)))))) (ki_drop 3 kd_S_put_69)
theorem kz_S_put_58 : kt_Snd l kt_shC kb_S_put 9 RX4 (some .boolean) 2 0 0 false false 58 kd_S_put_58 :=
  sd_aload_n (pc := 58) (kt_tab_get kx_S_put 33 rfl) rfl <|
  sd_iload (pc := 59) (kt_tab_get kx_S_put 34 rfl) <|
  sd_iconst (pc := 61) (kt_tab_get kx_S_put 35 rfl) kc_i_2 <|
  sd_iload_n (pc := 62) (kt_tab_get kx_S_put 36 rfl) rfl <|
  sd_callV (pc := 63) km_S_write (by decide) kv_S_write (ci := 4) kt_hc4 (by decide) (kt_tab_get kx_S_put 37 rfl) (kg_S_put_in _ (List.mem_of_getElem? (i := 6) rfl)) <|
  sd_if_eq (pc := 66) (tgt := 127) (kt_tab_get kx_S_put 38 rfl) rfl (sd_drop (k := 7) (sd_drop (k := 6) (sd_drop (k := 5) (sd_drop (k := 4) (sd_drop (k := 3) (sd_drop (k := 0) kz_S_put_127)))))) (sd_drop (k := 3) kz_S_put_69)
noncomputable def kd_S_put_47 : kt_D := ki_aload 0 <| ki_iload 7 <| ki_push (.int 1) <| ki_iload 2 <| ki_callV kt_shC 4 3 kf_S_write <| ki_if_eq (ki_drop 7 (ki_drop 6 (ki_drop 5 (ki_drop 4 (ki_drop 3 (ki_drop 2 (ki_drop 0 kd_S_put_127))))))) (ki_drop 2 kd_S_put_58)
theorem kz_S_put_47 : kt_Snd l kt_shC kb_S_put 9 RX4 (some .boolean) 2 0 0 false false 47 kd_S_put_47 :=
  sd_aload_n (pc := 47) (kt_tab_get kx_S_put 27 rfl) rfl <|
  sd_iload (pc := 48) (kt_tab_get kx_S_put 28 rfl) <|
  sd_iconst (pc := 50) (kt_tab_get kx_S_put 29 rfl) kc_i_1 <|
  sd_iload_n (pc := 51) (kt_tab_get kx_S_put 30 rfl) rfl <|
  sd_callV (pc := 52) km_S_write (by decide) kv_S_write (ci := 4) kt_hc4 (by decide) (kt_tab_get kx_S_put 31 rfl) (kg_S_put_in _ (List.mem_of_getElem? (i := 6) rfl)) <|
  sd_if_eq (pc := 55) (tgt := 127) (kt_tab_get kx_S_put 32 rfl) rfl (sd_drop (k := 7) (sd_drop (k := 6) (sd_drop (k := 5) (sd_drop (k := 4) (sd_drop (k := 3) (sd_drop (k := 2) (sd_drop (k := 0) kz_S_put_127))))))) (sd_drop (k := 2) kz_S_put_58)
noncomputable def kd_S_put_0 : kt_D := ki_aload 0 <| ki_iload 1 <| ki_callV kt_shC 4 1 kf_S_pageOf <| ki_istore 6 <| ki_aload 0 <| ki_callV kt_shC 4 0 kf_S_firstErased <| ki_istore 7 <| ki_push (.int 0) <| ki_aload 0 <| ki_push (.int 2147483647) <| ki_callV kt_shC 4 1 kf_S_labelBelow <| ki_max <| ki_push (.int 16) <| ki_idiv <| ki_push (.int 1) <| ki_iadd <| ki_istore 8 <| ki_aload 0 <| ki_iload 7 <| ki_push (.int 0) <| ki_iload 1 <| ki_push (.int 16) <| ki_iload 8 <| ki_imul <| ki_iadd <| ki_callV kt_shC 4 3 kf_S_write <| ki_if_eq (ki_drop 8 (ki_drop 7 (ki_drop 6 (ki_drop 5 (ki_drop 4 (ki_drop 3 (ki_drop 2 (ki_drop 1 (ki_drop 0 kd_S_put_127))))))))) (ki_drop 8 (ki_drop 1 kd_S_put_47))
theorem kz_S_put_0 : kt_Snd l kt_shC kb_S_put 9 RX4 (some .boolean) 2 0 0 false false 0 kd_S_put_0 :=
  sd_aload_n (pc := 0) (kt_tab_get kx_S_put 0 rfl) rfl <|
  sd_iload_n (pc := 1) (kt_tab_get kx_S_put 1 rfl) rfl <|
  sd_callV (pc := 2) km_S_pageOf (by decide) kv_S_pageOf (ci := 4) kt_hc4 (by decide) (kt_tab_get kx_S_put 2 rfl) (kg_S_put_in _ (List.mem_of_getElem? (i := 7) rfl)) <|
  sd_istore (pc := 5) (kt_tab_get kx_S_put 3 rfl) (by decide) <|
  sd_aload_n (pc := 7) (kt_tab_get kx_S_put 4 rfl) rfl <|
  sd_callV (pc := 8) km_S_firstErased (by decide) kv_S_firstErased (ci := 4) kt_hc4 (by decide) (kt_tab_get kx_S_put 5 rfl) (kg_S_put_in _ (List.mem_of_getElem? (i := 8) rfl)) <|
  sd_istore (pc := 11) (kt_tab_get kx_S_put 6 rfl) (by decide) <|
  sd_iconst (pc := 13) (kt_tab_get kx_S_put 7 rfl) kc_i_0 <|
  sd_aload_n (pc := 14) (kt_tab_get kx_S_put 8 rfl) rfl <|
  sd_ldc (pc := 15) (kt_tab_get kx_S_put 9 rfl) (kg_S_put_in _ (List.mem_of_getElem? (i := 9) rfl)) <|
  sd_callV (pc := 17) km_S_labelBelow (by decide) kv_S_labelBelow (ci := 4) kt_hc4 (by decide) (kt_tab_get kx_S_put 10 rfl) (kg_S_put_in _ (List.mem_of_getElem? (i := 10) rfl)) <|
  sd_max (pc := 20) (by decide) (kt_tab_get kx_S_put 11 rfl) (kg_S_put_in _ (List.mem_of_getElem? (i := 11) rfl)) (kg_S_put_in _ (List.mem_of_getElem? (i := 12) rfl)) (kg_S_put_in _ (List.mem_of_getElem? (i := 13) rfl)) (kg_S_put_in _ (List.mem_of_getElem? (i := 14) rfl)) <|
  sd_bipush (pc := 23) (kt_tab_get kx_S_put 12 rfl) kc_b_16 <|
  sd_idiv (pc := 25) (kt_tab_get kx_S_put 13 rfl) <|
  sd_iconst (pc := 26) (kt_tab_get kx_S_put 14 rfl) kc_i_1 <|
  sd_iadd (pc := 27) (kt_tab_get kx_S_put 15 rfl) <|
  sd_istore (pc := 28) (kt_tab_get kx_S_put 16 rfl) (by decide) <|
  sd_aload_n (pc := 30) (kt_tab_get kx_S_put 17 rfl) rfl <|
  sd_iload (pc := 31) (kt_tab_get kx_S_put 18 rfl) <|
  sd_iconst (pc := 33) (kt_tab_get kx_S_put 19 rfl) kc_i_0 <|
  sd_iload_n (pc := 34) (kt_tab_get kx_S_put 20 rfl) rfl <|
  sd_bipush (pc := 35) (kt_tab_get kx_S_put 21 rfl) kc_b_16 <|
  sd_iload (pc := 37) (kt_tab_get kx_S_put 22 rfl) <|
  sd_imul (pc := 39) (kt_tab_get kx_S_put 23 rfl) <|
  sd_iadd (pc := 40) (kt_tab_get kx_S_put 24 rfl) <|
  sd_callV (pc := 41) km_S_write (by decide) kv_S_write (ci := 4) kt_hc4 (by decide) (kt_tab_get kx_S_put 25 rfl) (kg_S_put_in _ (List.mem_of_getElem? (i := 6) rfl)) <|
  sd_if_eq (pc := 44) (tgt := 127) (kt_tab_get kx_S_put 26 rfl) rfl (sd_drop (k := 8) (sd_drop (k := 7) (sd_drop (k := 6) (sd_drop (k := 5) (sd_drop (k := 4) (sd_drop (k := 3) (sd_drop (k := 2) (sd_drop (k := 1) (sd_drop (k := 0) kz_S_put_127))))))))) (sd_drop (k := 8) (sd_drop (k := 1) kz_S_put_47))
noncomputable def kf_S_put : kt_F := kt_run 9 kd_S_put_0
theorem km_S_put : kt_M l kt_shC ky_S_put kb_S_put 9 (some .boolean) 2 false kf_S_put := kt_method (by decide) rfl kz_S_put_0
noncomputable def kd_S_dropAll_34 : kt_D := ki_push (.int 1) <| ki_zret
theorem kz_S_dropAll_34 : kt_Snd l kt_shC kb_S_dropAll 2 RX4 (some .boolean) 2 0 0 false false 34 kd_S_dropAll_34 :=
  sd_iconst (pc := 34) (kt_tab_get kx_S_dropAll 19 rfl) kc_i_1 <|
  sd_zret (pc := 35) rfl (by decide) (kt_tab_get kx_S_dropAll 20 rfl)
noncomputable def kd_S_dropAll_28 (kh_2 : kt_D) : kt_D := ki_iinc 1 1 <| kh_2
theorem kz_S_dropAll_28 {kh_2 : kt_D} (zh_2 : kt_Snd l kt_shC kb_S_dropAll 2 RX4 (some .boolean) 2 0 0 false false 2 kh_2) : kt_Snd l kt_shC kb_S_dropAll 2 RX4 (some .boolean) 2 0 0 false false 28 (kd_S_dropAll_28 kh_2) :=
  sd_iinc (pc := 28) (kt_tab_get kx_S_dropAll 17 rfl) kc_i_1 (by decide) <|
  sd_goto (pc := 31) (tgt := 2) (kt_tab_get kx_S_dropAll 18 rfl) rfl zh_2
noncomputable def kd_S_dropAll_26 : kt_D := ki_push (.int 0) <| ki_zret
theorem kz_S_dropAll_26 : kt_Snd l kt_shC kb_S_dropAll 2 RX4 (some .boolean) 2 0 0 false false 26 kd_S_dropAll_26 :=
  sd_iconst (pc := 26) (kt_tab_get kx_S_dropAll 15 rfl) kc_i_0 <|
  sd_zret (pc := 27) rfl (by decide) (kt_tab_get kx_S_dropAll 16 rfl)
noncomputable def kd_S_dropAll_18 (kh_2 : kt_D) : kt_D := ki_aload 0 <| ki_iload 1 <| ki_callV kt_shC 4 1 kf_S_erase <| ki_if_ne (kd_S_dropAll_28 kh_2) (ki_drop 1 (ki_drop 0 kd_S_dropAll_26))
theorem kz_S_dropAll_18 {kh_2 : kt_D} (zh_2 : kt_Snd l kt_shC kb_S_dropAll 2 RX4 (some .boolean) 2 0 0 false false 2 kh_2) : kt_Snd l kt_shC kb_S_dropAll 2 RX4 (some .boolean) 2 0 0 false false 18 (kd_S_dropAll_18 kh_2) :=
  sd_aload_n (pc := 18) (kt_tab_get kx_S_dropAll 11 rfl) rfl <|
  sd_iload_n (pc := 19) (kt_tab_get kx_S_dropAll 12 rfl) rfl <|
  sd_callV (pc := 20) km_S_erase (by decide) kv_S_erase (ci := 4) kt_hc4 (by decide) (kt_tab_get kx_S_dropAll 13 rfl) (kg_S_dropAll_in _ (List.mem_of_getElem? (i := 4) rfl)) <|
  sd_if_ne (pc := 23) (tgt := 28) (kt_tab_get kx_S_dropAll 14 rfl) rfl (kz_S_dropAll_28 zh_2) (sd_drop (k := 1) (sd_drop (k := 0) kz_S_dropAll_26))
noncomputable def kd_S_dropAll_8 (kh_2 : kt_D) : kt_D := ki_aload 0 <| ki_iload 1 <| ki_push (.int 0) <| ki_callV kt_shC 4 2 kf_S_read <| ki_push (.int (-1)) <| ki_icmp_eq (kd_S_dropAll_28 kh_2) (kd_S_dropAll_18 kh_2)
theorem kz_S_dropAll_8 {kh_2 : kt_D} (zh_2 : kt_Snd l kt_shC kb_S_dropAll 2 RX4 (some .boolean) 2 0 0 false false 2 kh_2) : kt_Snd l kt_shC kb_S_dropAll 2 RX4 (some .boolean) 2 0 0 false false 8 (kd_S_dropAll_8 kh_2) :=
  sd_aload_n (pc := 8) (kt_tab_get kx_S_dropAll 5 rfl) rfl <|
  sd_iload_n (pc := 9) (kt_tab_get kx_S_dropAll 6 rfl) rfl <|
  sd_iconst (pc := 10) (kt_tab_get kx_S_dropAll 7 rfl) kc_i_0 <|
  sd_callV (pc := 11) km_S_read (by decide) kv_S_read (ci := 4) kt_hc4 (by decide) (kt_tab_get kx_S_dropAll 8 rfl) (kg_S_dropAll_in _ (List.mem_of_getElem? (i := 5) rfl)) <|
  sd_iconst (pc := 14) (kt_tab_get kx_S_dropAll 9 rfl) kc_i_m1 <|
  sd_icmp_eq (pc := 15) (tgt := 28) (kt_tab_get kx_S_dropAll 10 rfl) rfl (kz_S_dropAll_28 zh_2) (kz_S_dropAll_18 zh_2)
noncomputable def kd_S_dropAll_2b (kh_2 : kt_D) : kt_D := ki_iload 1 <| ki_push (.int 7) <| ki_icmp_ge (ki_drop 1 (ki_drop 0 kd_S_dropAll_34)) (kd_S_dropAll_8 kh_2)
theorem kz_S_dropAll_2b {kh_2 : kt_D} (zh_2 : kt_Snd l kt_shC kb_S_dropAll 2 RX4 (some .boolean) 2 0 0 false false 2 kh_2) : kt_Snd l kt_shC kb_S_dropAll 2 RX4 (some .boolean) 2 0 0 false false 2 (kd_S_dropAll_2b kh_2) :=
  sd_iload_n (pc := 2) (kt_tab_get kx_S_dropAll 2 rfl) rfl <|
  sd_bipush (pc := 3) (kt_tab_get kx_S_dropAll 3 rfl) kc_b_7 <|
  sd_icmp_ge (pc := 5) (tgt := 34) (kt_tab_get kx_S_dropAll 4 rfl) rfl (sd_drop (k := 1) (sd_drop (k := 0) kz_S_dropAll_34)) (kz_S_dropAll_8 zh_2)
noncomputable def kd_S_dropAll_2 (n : Nat) : kt_D := Nat.rec (fun _ _ _ => none) (fun _ ih => kd_S_dropAll_2b ih) n
theorem kz_S_dropAll_2 (n : Nat) : kt_Snd l kt_shC kb_S_dropAll 2 RX4 (some .boolean) 2 0 0 false false 2 (kd_S_dropAll_2 n) := by
  induction n with
  | zero => exact sd_fail
  | succ n ih => exact kz_S_dropAll_2b ih
noncomputable def kd_S_dropAll_0 : kt_D := ki_push (.int 0) <| ki_istore 1 <| (kd_S_dropAll_2 100)
theorem kz_S_dropAll_0 : kt_Snd l kt_shC kb_S_dropAll 2 RX4 (some .boolean) 2 0 0 false false 0 kd_S_dropAll_0 :=
  sd_iconst (pc := 0) (kt_tab_get kx_S_dropAll 0 rfl) kc_i_0 <|
  sd_istore_n (pc := 1) (kt_tab_get kx_S_dropAll 1 rfl) rfl (by decide) <|
  (kz_S_dropAll_2 100)
noncomputable def kf_S_dropAll : kt_F := kt_run 2 kd_S_dropAll_0
theorem km_S_dropAll : kt_M l kt_shC ky_S_dropAll kb_S_dropAll 2 (some .boolean) 2 false kf_S_dropAll := kt_method (by decide) rfl kz_S_dropAll_0
noncomputable def kd_S_isSealed_19 : kt_D := ki_zret
theorem kz_S_isSealed_19 : kt_Snd l kt_shC kb_S_isSealed 2 RX4 (some .boolean) 2 0 0 true true 19 kd_S_isSealed_19 :=
  sd_zret (pc := 19) rfl (by decide) (kt_tab_get kx_S_isSealed 11 rfl)
noncomputable def kd_S_isSealed_18 : kt_D := ki_push (.int 0) <| kd_S_isSealed_19
theorem kz_S_isSealed_18 : kt_Snd l kt_shC kb_S_isSealed 2 RX4 (some .boolean) 2 0 0 true true 18 kd_S_isSealed_18 :=
  sd_iconst (pc := 18) (kt_tab_get kx_S_isSealed 10 rfl) kc_i_0 <|
  kz_S_isSealed_19
noncomputable def kd_S_isSealed_14 : kt_D := ki_push (.int 1) <| kd_S_isSealed_19
theorem kz_S_isSealed_14 : kt_Snd l kt_shC kb_S_isSealed 2 RX4 (some .boolean) 2 0 0 true true 14 kd_S_isSealed_14 :=
  sd_iconst (pc := 14) (kt_tab_get kx_S_isSealed 8 rfl) kc_i_1 <|
  sd_goto (pc := 15) (tgt := 19) (kt_tab_get kx_S_isSealed 9 rfl) rfl kz_S_isSealed_19
noncomputable def kd_S_isSealed_0 : kt_D := ki_aload 0 <| ki_iload 1 <| ki_push (.int 5) <| ki_callV kt_shC 4 2 kf_S_read <| ki_aload 0 <| ki_iload 1 <| ki_callV kt_shC 4 1 kf_S_sealOf <| ki_icmp_ne (ki_drop 1 (ki_drop 0 kd_S_isSealed_18)) (ki_drop 1 (ki_drop 0 kd_S_isSealed_14))
theorem kz_S_isSealed_0 : kt_Snd l kt_shC kb_S_isSealed 2 RX4 (some .boolean) 2 0 0 true true 0 kd_S_isSealed_0 :=
  sd_aload_n (pc := 0) (kt_tab_get kx_S_isSealed 0 rfl) rfl <|
  sd_iload_n (pc := 1) (kt_tab_get kx_S_isSealed 1 rfl) rfl <|
  sd_iconst (pc := 2) (kt_tab_get kx_S_isSealed 2 rfl) kc_i_5 <|
  sd_callV (pc := 3) km_S_read (by decide) kv_S_read (ci := 4) kt_hc4 (by decide) (kt_tab_get kx_S_isSealed 3 rfl) (kg_S_isSealed_in _ (List.mem_of_getElem? (i := 4) rfl)) <|
  sd_aload_n (pc := 6) (kt_tab_get kx_S_isSealed 4 rfl) rfl <|
  sd_iload_n (pc := 7) (kt_tab_get kx_S_isSealed 5 rfl) rfl <|
  sd_callV (pc := 8) km_S_sealOf (by decide) kv_S_sealOf (ci := 4) kt_hc4 (by decide) (kt_tab_get kx_S_isSealed 6 rfl) (kg_S_isSealed_in _ (List.mem_of_getElem? (i := 5) rfl)) <|
  sd_icmp_ne (pc := 11) (tgt := 18) (kt_tab_get kx_S_isSealed 7 rfl) rfl (sd_drop (k := 1) (sd_drop (k := 0) kz_S_isSealed_18)) (sd_drop (k := 1) (sd_drop (k := 0) kz_S_isSealed_14))
noncomputable def kf_S_isSealed : kt_F := kt_run 2 kd_S_isSealed_0
theorem km_S_isSealed : kt_M l kt_shC ky_S_isSealed kb_S_isSealed 2 (some .boolean) 2 true kf_S_isSealed := kt_method (by decide) rfl kz_S_isSealed_0
noncomputable def kd_S_isOutdated_57 : kt_D := ki_push (.int 0) <| ki_zret
theorem kz_S_isOutdated_57 : kt_Snd l kt_shC kb_S_isOutdated 5 RX4 (some .boolean) 3 0 0 true true 57 kd_S_isOutdated_57 :=
  sd_iconst (pc := 57) (kt_tab_get kx_S_isOutdated 33 rfl) kc_i_0 <|
  sd_zret (pc := 58) rfl (by decide) (kt_tab_get kx_S_isOutdated 34 rfl)
noncomputable def kd_S_isOutdated_51 (kh_9 : kt_D) : kt_D := ki_iinc 3 1 <| kh_9
theorem kz_S_isOutdated_51 {kh_9 : kt_D} (zh_9 : kt_Snd l kt_shC kb_S_isOutdated 5 RX4 (some .boolean) 3 0 0 true true 9 kh_9) : kt_Snd l kt_shC kb_S_isOutdated 5 RX4 (some .boolean) 3 0 0 true true 51 (kd_S_isOutdated_51 kh_9) :=
  sd_iinc (pc := 51) (kt_tab_get kx_S_isOutdated 31 rfl) kc_i_1 (by decide) <|
  sd_goto (pc := 54) (tgt := 9) (kt_tab_get kx_S_isOutdated 32 rfl) rfl zh_9
noncomputable def kd_S_isOutdated_49 : kt_D := ki_push (.int 1) <| ki_zret
theorem kz_S_isOutdated_49 : kt_Snd l kt_shC kb_S_isOutdated 5 RX4 (some .boolean) 3 0 0 true true 49 kd_S_isOutdated_49 :=
  sd_iconst (pc := 49) (kt_tab_get kx_S_isOutdated 29 rfl) kc_i_1 <|
  sd_zret (pc := 50) rfl (by decide) (kt_tab_get kx_S_isOutdated 30 rfl)
noncomputable def kd_S_isOutdated_43 (kh_9 : kt_D) : kt_D := ki_iload 4 <| ki_iload 2 <| ki_icmp_le (ki_drop 4 (kd_S_isOutdated_51 kh_9)) (ki_drop 4 (ki_drop 3 (ki_drop 2 (ki_drop 0 kd_S_isOutdated_49))))
theorem kz_S_isOutdated_43 {kh_9 : kt_D} (zh_9 : kt_Snd l kt_shC kb_S_isOutdated 5 RX4 (some .boolean) 3 0 0 true true 9 kh_9) : kt_Snd l kt_shC kb_S_isOutdated 5 RX4 (some .boolean) 3 0 0 true true 43 (kd_S_isOutdated_43 kh_9) :=
  sd_iload (pc := 43) (kt_tab_get kx_S_isOutdated 26 rfl) <|
  sd_iload_n (pc := 45) (kt_tab_get kx_S_isOutdated 27 rfl) rfl <|
  sd_icmp_le (pc := 46) (tgt := 51) (kt_tab_get kx_S_isOutdated 28 rfl) rfl (sd_drop (k := 4) (kz_S_isOutdated_51 zh_9)) (sd_drop (k := 4) (sd_drop (k := 3) (sd_drop (k := 2) (sd_drop (k := 0) kz_S_isOutdated_49))))
noncomputable def kd_S_isOutdated_31 (kh_9 : kt_D) : kt_D := ki_iload 4 <| ki_push (.int 16) <| ki_irem <| ki_iload 2 <| ki_push (.int 16) <| ki_irem <| ki_icmp_ne (ki_drop 4 (kd_S_isOutdated_51 kh_9)) (kd_S_isOutdated_43 kh_9)
theorem kz_S_isOutdated_31 {kh_9 : kt_D} (zh_9 : kt_Snd l kt_shC kb_S_isOutdated 5 RX4 (some .boolean) 3 0 0 true true 9 kh_9) : kt_Snd l kt_shC kb_S_isOutdated 5 RX4 (some .boolean) 3 0 0 true true 31 (kd_S_isOutdated_31 kh_9) :=
  sd_iload (pc := 31) (kt_tab_get kx_S_isOutdated 19 rfl) <|
  sd_bipush (pc := 33) (kt_tab_get kx_S_isOutdated 20 rfl) kc_b_16 <|
  sd_irem (pc := 35) (kt_tab_get kx_S_isOutdated 21 rfl) <|
  sd_iload_n (pc := 36) (kt_tab_get kx_S_isOutdated 22 rfl) rfl <|
  sd_bipush (pc := 37) (kt_tab_get kx_S_isOutdated 23 rfl) kc_b_16 <|
  sd_irem (pc := 39) (kt_tab_get kx_S_isOutdated 24 rfl) <|
  sd_icmp_ne (pc := 40) (tgt := 51) (kt_tab_get kx_S_isOutdated 25 rfl) rfl (sd_drop (k := 4) (kz_S_isOutdated_51 zh_9)) (kz_S_isOutdated_43 zh_9)
noncomputable def kd_S_isOutdated_15 (kh_9 : kt_D) : kt_D := ki_aload 0 <| ki_iload 3 <| ki_push (.int 0) <| ki_callV kt_shC 4 2 kf_S_read <| ki_istore 4 <| ki_aload 0 <| ki_iload 3 <| ki_callV kt_shC 4 1 kf_S_isSealed <| ki_if_eq (ki_drop 4 (kd_S_isOutdated_51 kh_9)) (kd_S_isOutdated_31 kh_9)
theorem kz_S_isOutdated_15 {kh_9 : kt_D} (zh_9 : kt_Snd l kt_shC kb_S_isOutdated 5 RX4 (some .boolean) 3 0 0 true true 9 kh_9) : kt_Snd l kt_shC kb_S_isOutdated 5 RX4 (some .boolean) 3 0 0 true true 15 (kd_S_isOutdated_15 kh_9) :=
  sd_aload_n (pc := 15) (kt_tab_get kx_S_isOutdated 10 rfl) rfl <|
  sd_iload_n (pc := 16) (kt_tab_get kx_S_isOutdated 11 rfl) rfl <|
  sd_iconst (pc := 17) (kt_tab_get kx_S_isOutdated 12 rfl) kc_i_0 <|
  sd_callV (pc := 18) km_S_read (by decide) kv_S_read (ci := 4) kt_hc4 (by decide) (kt_tab_get kx_S_isOutdated 13 rfl) (kg_S_isOutdated_in _ (List.mem_of_getElem? (i := 4) rfl)) <|
  sd_istore (pc := 21) (kt_tab_get kx_S_isOutdated 14 rfl) (by decide) <|
  sd_aload_n (pc := 23) (kt_tab_get kx_S_isOutdated 15 rfl) rfl <|
  sd_iload_n (pc := 24) (kt_tab_get kx_S_isOutdated 16 rfl) rfl <|
  sd_callV (pc := 25) km_S_isSealed (by decide) kv_S_isSealed (ci := 4) kt_hc4 (by decide) (kt_tab_get kx_S_isOutdated 17 rfl) (kg_S_isOutdated_in _ (List.mem_of_getElem? (i := 5) rfl)) <|
  sd_if_eq (pc := 28) (tgt := 51) (kt_tab_get kx_S_isOutdated 18 rfl) rfl (sd_drop (k := 4) (kz_S_isOutdated_51 zh_9)) (kz_S_isOutdated_31 zh_9)
noncomputable def kd_S_isOutdated_9b (kh_9 : kt_D) : kt_D := ki_iload 3 <| ki_push (.int 7) <| ki_icmp_ge (ki_drop 3 (ki_drop 2 (ki_drop 0 kd_S_isOutdated_57))) (kd_S_isOutdated_15 kh_9)
theorem kz_S_isOutdated_9b {kh_9 : kt_D} (zh_9 : kt_Snd l kt_shC kb_S_isOutdated 5 RX4 (some .boolean) 3 0 0 true true 9 kh_9) : kt_Snd l kt_shC kb_S_isOutdated 5 RX4 (some .boolean) 3 0 0 true true 9 (kd_S_isOutdated_9b kh_9) :=
  sd_iload_n (pc := 9) (kt_tab_get kx_S_isOutdated 7 rfl) rfl <|
  sd_bipush (pc := 10) (kt_tab_get kx_S_isOutdated 8 rfl) kc_b_7 <|
  sd_icmp_ge (pc := 12) (tgt := 57) (kt_tab_get kx_S_isOutdated 9 rfl) rfl (sd_drop (k := 3) (sd_drop (k := 2) (sd_drop (k := 0) kz_S_isOutdated_57))) (kz_S_isOutdated_15 zh_9)
noncomputable def kd_S_isOutdated_9 (n : Nat) : kt_D := Nat.rec (fun _ _ _ => none) (fun _ ih => kd_S_isOutdated_9b ih) n
theorem kz_S_isOutdated_9 (n : Nat) : kt_Snd l kt_shC kb_S_isOutdated 5 RX4 (some .boolean) 3 0 0 true true 9 (kd_S_isOutdated_9 n) := by
  induction n with
  | zero => exact sd_fail
  | succ n ih => exact kz_S_isOutdated_9b ih
noncomputable def kd_S_isOutdated_0 : kt_D := ki_aload 0 <| ki_iload 1 <| ki_push (.int 0) <| ki_callV kt_shC 4 2 kf_S_read <| ki_istore 2 <| ki_push (.int 0) <| ki_istore 3 <| (ki_drop 1 (kd_S_isOutdated_9 100))
theorem kz_S_isOutdated_0 : kt_Snd l kt_shC kb_S_isOutdated 5 RX4 (some .boolean) 3 0 0 true true 0 kd_S_isOutdated_0 :=
  sd_aload_n (pc := 0) (kt_tab_get kx_S_isOutdated 0 rfl) rfl <|
  sd_iload_n (pc := 1) (kt_tab_get kx_S_isOutdated 1 rfl) rfl <|
  sd_iconst (pc := 2) (kt_tab_get kx_S_isOutdated 2 rfl) kc_i_0 <|
  sd_callV (pc := 3) km_S_read (by decide) kv_S_read (ci := 4) kt_hc4 (by decide) (kt_tab_get kx_S_isOutdated 3 rfl) (kg_S_isOutdated_in _ (List.mem_of_getElem? (i := 4) rfl)) <|
  sd_istore_n (pc := 6) (kt_tab_get kx_S_isOutdated 4 rfl) rfl (by decide) <|
  sd_iconst (pc := 7) (kt_tab_get kx_S_isOutdated 5 rfl) kc_i_0 <|
  sd_istore_n (pc := 8) (kt_tab_get kx_S_isOutdated 6 rfl) rfl (by decide) <|
  (sd_drop (k := 1) (kz_S_isOutdated_9 100))
noncomputable def kf_S_isOutdated : kt_F := kt_run 5 kd_S_isOutdated_0
theorem km_S_isOutdated : kt_M l kt_shC ky_S_isOutdated kb_S_isOutdated 5 (some .boolean) 3 true kf_S_isOutdated := kt_method (by decide) rfl kz_S_isOutdated_0
noncomputable def kd_S_lookThrough_46 : kt_D := ki_vret
theorem kz_S_lookThrough_46 : kt_Snd l kt_shC kb_S_lookThrough 2 RX4 none 4 0 0 false false 46 kd_S_lookThrough_46 :=
  sd_vret (pc := 46) rfl (by decide) (kt_tab_get kx_S_lookThrough 25 rfl)
noncomputable def kd_S_lookThrough_40 (kh_2 : kt_D) : kt_D := ki_iinc 1 1 <| kh_2
theorem kz_S_lookThrough_40 {kh_2 : kt_D} (zh_2 : kt_Snd l kt_shC kb_S_lookThrough 2 RX4 none 4 0 0 false false 2 kh_2) : kt_Snd l kt_shC kb_S_lookThrough 2 RX4 none 4 0 0 false false 40 (kd_S_lookThrough_40 kh_2) :=
  sd_iinc (pc := 40) (kt_tab_get kx_S_lookThrough 23 rfl) kc_i_1 (by decide) <|
  sd_goto (pc := 43) (tgt := 2) (kt_tab_get kx_S_lookThrough 24 rfl) rfl zh_2
noncomputable def kd_S_lookThrough_34 (kh_2 : kt_D) : kt_D := ki_aload 0 <| ki_iload 1 <| ki_callV kt_shC 4 1 kf_S_erase <| ki_pop <| (kd_S_lookThrough_40 kh_2)
theorem kz_S_lookThrough_34 {kh_2 : kt_D} (zh_2 : kt_Snd l kt_shC kb_S_lookThrough 2 RX4 none 4 0 0 false false 2 kh_2) : kt_Snd l kt_shC kb_S_lookThrough 2 RX4 none 4 0 0 false false 34 (kd_S_lookThrough_34 kh_2) :=
  sd_aload_n (pc := 34) (kt_tab_get kx_S_lookThrough 19 rfl) rfl <|
  sd_iload_n (pc := 35) (kt_tab_get kx_S_lookThrough 20 rfl) rfl <|
  sd_callV (pc := 36) km_S_erase (by decide) kv_S_erase (ci := 4) kt_hc4 (by decide) (kt_tab_get kx_S_lookThrough 21 rfl) (kg_S_lookThrough_in _ (List.mem_of_getElem? (i := 4) rfl)) <|
  sd_pop (pc := 39) (kt_tab_get kx_S_lookThrough 22 rfl) <|
  (kz_S_lookThrough_40 zh_2)
noncomputable def kd_S_lookThrough_26 (kh_2 : kt_D) : kt_D := ki_aload 0 <| ki_iload 1 <| ki_callV kt_shC 4 1 kf_S_isOutdated <| ki_if_eq (kd_S_lookThrough_40 kh_2) (kd_S_lookThrough_34 kh_2)
theorem kz_S_lookThrough_26 {kh_2 : kt_D} (zh_2 : kt_Snd l kt_shC kb_S_lookThrough 2 RX4 none 4 0 0 false false 2 kh_2) : kt_Snd l kt_shC kb_S_lookThrough 2 RX4 none 4 0 0 false false 26 (kd_S_lookThrough_26 kh_2) :=
  sd_aload_n (pc := 26) (kt_tab_get kx_S_lookThrough 15 rfl) rfl <|
  sd_iload_n (pc := 27) (kt_tab_get kx_S_lookThrough 16 rfl) rfl <|
  sd_callV (pc := 28) km_S_isOutdated (by decide) kv_S_isOutdated (ci := 4) kt_hc4 (by decide) (kt_tab_get kx_S_lookThrough 17 rfl) (kg_S_lookThrough_in _ (List.mem_of_getElem? (i := 5) rfl)) <|
  sd_if_eq (pc := 31) (tgt := 40) (kt_tab_get kx_S_lookThrough 18 rfl) rfl (kz_S_lookThrough_40 zh_2) (kz_S_lookThrough_34 zh_2)
noncomputable def kd_S_lookThrough_18 (kh_2 : kt_D) : kt_D := ki_aload 0 <| ki_iload 1 <| ki_callV kt_shC 4 1 kf_S_isSealed <| ki_if_eq (kd_S_lookThrough_34 kh_2) (kd_S_lookThrough_26 kh_2)
theorem kz_S_lookThrough_18 {kh_2 : kt_D} (zh_2 : kt_Snd l kt_shC kb_S_lookThrough 2 RX4 none 4 0 0 false false 2 kh_2) : kt_Snd l kt_shC kb_S_lookThrough 2 RX4 none 4 0 0 false false 18 (kd_S_lookThrough_18 kh_2) :=
  sd_aload_n (pc := 18) (kt_tab_get kx_S_lookThrough 11 rfl) rfl <|
  sd_iload_n (pc := 19) (kt_tab_get kx_S_lookThrough 12 rfl) rfl <|
  sd_callV (pc := 20) km_S_isSealed (by decide) kv_S_isSealed (ci := 4) kt_hc4 (by decide) (kt_tab_get kx_S_lookThrough 13 rfl) (kg_S_lookThrough_in _ (List.mem_of_getElem? (i := 6) rfl)) <|
  sd_if_eq (pc := 23) (tgt := 34) (kt_tab_get kx_S_lookThrough 14 rfl) rfl (kz_S_lookThrough_34 zh_2) (kz_S_lookThrough_26 zh_2)
noncomputable def kd_S_lookThrough_8 (kh_2 : kt_D) : kt_D := ki_aload 0 <| ki_iload 1 <| ki_push (.int 0) <| ki_callV kt_shC 4 2 kf_S_read <| ki_push (.int (-1)) <| ki_icmp_eq (kd_S_lookThrough_40 kh_2) (kd_S_lookThrough_18 kh_2)
theorem kz_S_lookThrough_8 {kh_2 : kt_D} (zh_2 : kt_Snd l kt_shC kb_S_lookThrough 2 RX4 none 4 0 0 false false 2 kh_2) : kt_Snd l kt_shC kb_S_lookThrough 2 RX4 none 4 0 0 false false 8 (kd_S_lookThrough_8 kh_2) :=
  sd_aload_n (pc := 8) (kt_tab_get kx_S_lookThrough 5 rfl) rfl <|
  sd_iload_n (pc := 9) (kt_tab_get kx_S_lookThrough 6 rfl) rfl <|
  sd_iconst (pc := 10) (kt_tab_get kx_S_lookThrough 7 rfl) kc_i_0 <|
  sd_callV (pc := 11) km_S_read (by decide) kv_S_read (ci := 4) kt_hc4 (by decide) (kt_tab_get kx_S_lookThrough 8 rfl) (kg_S_lookThrough_in _ (List.mem_of_getElem? (i := 7) rfl)) <|
  sd_iconst (pc := 14) (kt_tab_get kx_S_lookThrough 9 rfl) kc_i_m1 <|
  sd_icmp_eq (pc := 15) (tgt := 40) (kt_tab_get kx_S_lookThrough 10 rfl) rfl (kz_S_lookThrough_40 zh_2) (kz_S_lookThrough_18 zh_2)
noncomputable def kd_S_lookThrough_2b (kh_2 : kt_D) : kt_D := ki_iload 1 <| ki_push (.int 7) <| ki_icmp_ge (ki_drop 1 (ki_drop 0 kd_S_lookThrough_46)) (kd_S_lookThrough_8 kh_2)
theorem kz_S_lookThrough_2b {kh_2 : kt_D} (zh_2 : kt_Snd l kt_shC kb_S_lookThrough 2 RX4 none 4 0 0 false false 2 kh_2) : kt_Snd l kt_shC kb_S_lookThrough 2 RX4 none 4 0 0 false false 2 (kd_S_lookThrough_2b kh_2) :=
  sd_iload_n (pc := 2) (kt_tab_get kx_S_lookThrough 2 rfl) rfl <|
  sd_bipush (pc := 3) (kt_tab_get kx_S_lookThrough 3 rfl) kc_b_7 <|
  sd_icmp_ge (pc := 5) (tgt := 46) (kt_tab_get kx_S_lookThrough 4 rfl) rfl (sd_drop (k := 1) (sd_drop (k := 0) kz_S_lookThrough_46)) (kz_S_lookThrough_8 zh_2)
noncomputable def kd_S_lookThrough_2 (n : Nat) : kt_D := Nat.rec (fun _ _ _ => none) (fun _ ih => kd_S_lookThrough_2b ih) n
theorem kz_S_lookThrough_2 (n : Nat) : kt_Snd l kt_shC kb_S_lookThrough 2 RX4 none 4 0 0 false false 2 (kd_S_lookThrough_2 n) := by
  induction n with
  | zero => exact sd_fail
  | succ n ih => exact kz_S_lookThrough_2b ih
noncomputable def kd_S_lookThrough_0 : kt_D := ki_push (.int 0) <| ki_istore 1 <| (kd_S_lookThrough_2 100)
theorem kz_S_lookThrough_0 : kt_Snd l kt_shC kb_S_lookThrough 2 RX4 none 4 0 0 false false 0 kd_S_lookThrough_0 :=
  sd_iconst (pc := 0) (kt_tab_get kx_S_lookThrough 0 rfl) kc_i_0 <|
  sd_istore_n (pc := 1) (kt_tab_get kx_S_lookThrough 1 rfl) rfl (by decide) <|
  (kz_S_lookThrough_2 100)
noncomputable def kf_S_lookThrough : kt_F := kt_run 2 kd_S_lookThrough_0
theorem km_S_lookThrough : kt_M l kt_shC ky_S_lookThrough kb_S_lookThrough 2 none 4 false kf_S_lookThrough := kt_method (by decide) rfl kz_S_lookThrough_0
end
