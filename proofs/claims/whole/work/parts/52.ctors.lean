/-! the constructors, by program (mknew.py) -/
def MX_X8_init_1 (M : zM) : zM := zup (zup (zup (zup (zup (zup (zup (zup (M) 1 1 0) 1 2 0) 1 3 256) 1 4 0) 1 5 0) 1 6 0) 1 7 0) 1 8 (-1)
def FX_X8_init_1 (F : zF2) : zF2 := rup (F) 1 0 2
theorem frM_X8_init_1 {M : zM} (h : zfrM 2 M) : zfrM 3 (MX_X8_init_1 M) := (zfrM_up (zfrM_up (zfrM_up (zfrM_up (zfrM_up (zfrM_up (zfrM_up (zfrM_up (zfrM_le h (by decide) : zfrM 3 M) (by decide)) (by decide)) (by decide)) (by decide)) (by decide)) (by decide)) (by decide)) (by decide))
theorem frF_X8_init_1 {F : zF2} (h : zfrF 2 F) : zfrF 3 (FX_X8_init_1 F) := (zfrF_up (zfrF_le h (by decide) : zfrF 3 F) (by decide))
set_option maxHeartbeats 2000000 in
set_option maxRecDepth 50000 in
theorem cn_X8_init_1 (l : Launch) (G : zG) (M : zM) (F : zF2) (hM : zfrM 2 M) (hF : zfrF 2 F) : zMn l G Y_X8_init 1 1 700 [.ref (G.2.1 + 1)] 2 M F 3 (MX_X8_init_1 M) (FX_X8_init_1 F) := by
  refine zMn_of (by decide +kernel) rfl (Nat.le_of_ble_eq_true rfl) ?_
  intro p e s m args below meth c ls C hnam hsz hP hl
  have hS : va_S (zA G) s.heap s.heap [] := va_S.rf
  have hl : lv_has ls 1 [(0, .ref (G.2.1 + 1))] := hl
  refine lv_aload_n C.1 C.2.1 dd_X8_init_0 rfl (lv_at hl 0 rfl) ?_
  refine en_obj C no_RX8_3 no_i no_c (hl.1.trans C.2.2.2.1.symm) (Nat.le_of_ble_eq_true rfl) (Nat.le_of_ble_eq_true rfl) (Nat.le_of_ble_eq_true rfl) dd_X8_init_1 ?_
  refine lv_aload_n C.1 C.2.1 dd_X8_init_4 rfl (lv_at hl 0 rfl) ?_
  refine lv_sipush (v := 700) C.1 C.2.1 dd_X8_init_5 (by decide) ?_
  refine en_newa (sh := 21) (N := 700) (ty := .byte) (atype := .byte) C hsz hP hS hM rfl na_byte (by decide +kernel) (by decide +kernel) (by decide) rfl ⟨1, rfl⟩ (fun h => h) (fun _ => rfl) (by decide) (by decide) (Nat.le_of_ble_eq_true rfl) (Nat.le_of_ble_eq_true rfl) (Nat.le_of_ble_eq_true rfl) dd_X8_init_8 (fun H hsz hP hS => ?_)
  have hM : zfrM 3 (M) := zfrM_le hM (by decide)
  have hF : zfrF 3 (F) := zfrF_le hF (by decide)
  refine en_putR (o := 1) (q := 2) C hnam hsz hP hS gf_RX8_9 (fun q h => by cases h; exact ⟨rfl, rfl⟩) (by decide) (by decide +kernel) (by decide +kernel) rfl rfl dd_X8_init_10 (fun H locs hsz hP hS => ?_)
  have hF : zfrF 3 (rup (F) 1 0 2) := zfrF_up hF (by decide)
  refine lv_aload_n C.1 C.2.1 dd_X8_init_13 rfl (lv_at hl 0 rfl) ?_
  refine lv_iconst (v := 0) C.1 C.2.1 dd_X8_init_14 (by decide) ?_
  refine en_putI (o := 1) (v := 0) C hsz hP hS gw_RX8_15 (by decide) (by decide +kernel) (by decide +kernel) (by decide) (by decide) dd_X8_init_15 (fun H locs hsz hP hS => ?_)
  have hM : zfrM 3 (zup (M) 1 1 0) := zfrM_up hM (by decide)
  refine lv_aload_n C.1 C.2.1 dd_X8_init_18 rfl (lv_at hl 0 rfl) ?_
  refine lv_iconst (v := 0) C.1 C.2.1 dd_X8_init_19 (by decide) ?_
  refine en_putI (o := 1) (v := 0) C hsz hP hS gw_RX8_19 (by decide) (by decide +kernel) (by decide +kernel) (by decide) (by decide) dd_X8_init_20 (fun H locs hsz hP hS => ?_)
  have hM : zfrM 3 (zup (zup (M) 1 1 0) 1 2 0) := zfrM_up hM (by decide)
  refine lv_aload_n C.1 C.2.1 dd_X8_init_23 rfl (lv_at hl 0 rfl) ?_
  refine lv_sipush (v := 256) C.1 C.2.1 dd_X8_init_24 (by decide) ?_
  refine en_putI (o := 1) (v := 256) C hsz hP hS gw_RX8_22 (by decide) (by decide +kernel) (by decide +kernel) (by decide) (by decide) dd_X8_init_27 (fun H locs hsz hP hS => ?_)
  have hM : zfrM 3 (zup (zup (zup (M) 1 1 0) 1 2 0) 1 3 256) := zfrM_up hM (by decide)
  refine lv_aload_n C.1 C.2.1 dd_X8_init_30 rfl (lv_at hl 0 rfl) ?_
  refine lv_iconst (v := 0) C.1 C.2.1 dd_X8_init_31 (by decide) ?_
  refine en_putI (o := 1) (v := 0) C hsz hP hS gw_RX8_25 (by decide) (by decide +kernel) (by decide +kernel) (by decide) (by decide) dd_X8_init_32 (fun H locs hsz hP hS => ?_)
  have hM : zfrM 3 (zup (zup (zup (zup (M) 1 1 0) 1 2 0) 1 3 256) 1 4 0) := zfrM_up hM (by decide)
  refine lv_aload_n C.1 C.2.1 dd_X8_init_35 rfl (lv_at hl 0 rfl) ?_
  refine lv_iconst (v := 0) C.1 C.2.1 dd_X8_init_36 (by decide) ?_
  refine en_putI (o := 1) (v := 0) C hsz hP hS gw_RX8_28 (by decide) (by decide +kernel) (by decide +kernel) (by decide) (by decide) dd_X8_init_37 (fun H locs hsz hP hS => ?_)
  have hM : zfrM 3 (zup (zup (zup (zup (zup (M) 1 1 0) 1 2 0) 1 3 256) 1 4 0) 1 5 0) := zfrM_up hM (by decide)
  refine lv_aload_n C.1 C.2.1 dd_X8_init_40 rfl (lv_at hl 0 rfl) ?_
  refine lv_iconst (v := 0) C.1 C.2.1 dd_X8_init_41 (by decide) ?_
  refine en_putI (o := 1) (v := 0) C hsz hP hS gw_RX8_31 (by decide) (by decide +kernel) (by decide +kernel) (by decide) (by decide) dd_X8_init_42 (fun H locs hsz hP hS => ?_)
  have hM : zfrM 3 (zup (zup (zup (zup (zup (zup (M) 1 1 0) 1 2 0) 1 3 256) 1 4 0) 1 5 0) 1 6 0) := zfrM_up hM (by decide)
  refine lv_aload_n C.1 C.2.1 dd_X8_init_45 rfl (lv_at hl 0 rfl) ?_
  refine lv_iconst (v := 0) C.1 C.2.1 dd_X8_init_46 (by decide) ?_
  refine en_putI (o := 1) (v := 0) C hsz hP hS gw_RX8_34 (by decide) (by decide +kernel) (by decide +kernel) (by decide) (by decide) dd_X8_init_47 (fun H locs hsz hP hS => ?_)
  have hM : zfrM 3 (zup (zup (zup (zup (zup (zup (zup (M) 1 1 0) 1 2 0) 1 3 256) 1 4 0) 1 5 0) 1 6 0) 1 7 0) := zfrM_up hM (by decide)
  refine lv_aload_n C.1 C.2.1 dd_X8_init_50 rfl (lv_at hl 0 rfl) ?_
  refine lv_iconst (v := (-1)) C.1 C.2.1 dd_X8_init_51 (by decide) ?_
  refine en_putI (o := 1) (v := (-1)) C hsz hP hS gw_RX8_37 (by decide) (by decide +kernel) (by decide +kernel) (by decide) (by decide) dd_X8_init_52 (fun H locs hsz hP hS => ?_)
  have hM : zfrM 3 (zup (zup (zup (zup (zup (zup (zup (zup (M) 1 1 0) 1 2 0) 1 3 256) 1 4 0) 1 5 0) 1 6 0) 1 7 0) 1 8 (-1)) := zfrM_up hM (by decide)
  exact en_ret C rfl dd_X8_init_55 hsz hP hS rfl rfl rfl
def MX_X9_init_4 (M : zM) : zM := zup (zup (M) 4 4 0) 4 5 0
def FX_X9_init_4 (F : zF2) : zF2 := rup (rup (rup (rup (F) 4 0 5) 4 1 6) 4 2 7) 4 3 8
theorem frM_X9_init_4 {M : zM} (h : zfrM 5 M) : zfrM 9 (MX_X9_init_4 M) := (zfrM_up (zfrM_up (zfrM_le h (by decide) : zfrM 9 M) (by decide)) (by decide))
theorem frF_X9_init_4 {F : zF2} (h : zfrF 5 F) : zfrF 9 (FX_X9_init_4 F) := (zfrF_up (zfrF_up (zfrF_up (zfrF_up (zfrF_le h (by decide) : zfrF 9 F) (by decide)) (by decide)) (by decide)) (by decide))
set_option maxHeartbeats 2000000 in
set_option maxRecDepth 50000 in
theorem cn_X9_init_4 (l : Launch) (G : zG) (M : zM) (F : zF2) (hM : zfrM 5 M) (hF : zfrF 5 F) : zMn l G Y_X9_init 1 4 90 [.ref (G.2.1 + 4)] 5 M F 9 (MX_X9_init_4 M) (FX_X9_init_4 F) := by
  refine zMn_of (by decide +kernel) rfl (Nat.le_of_ble_eq_true rfl) ?_
  intro p e s m args below meth c ls C hnam hsz hP hl
  have hS : va_S (zA G) s.heap s.heap [] := va_S.rf
  have hl : lv_has ls 1 [(0, .ref (G.2.1 + 4))] := hl
  refine lv_aload_n C.1 C.2.1 dd_X9_init_0 rfl (lv_at hl 0 rfl) ?_
  refine en_obj C no_RX9_3 no_i no_c (hl.1.trans C.2.2.2.1.symm) (Nat.le_of_ble_eq_true rfl) (Nat.le_of_ble_eq_true rfl) (Nat.le_of_ble_eq_true rfl) dd_X9_init_1 ?_
  refine lv_aload_n C.1 C.2.1 dd_X9_init_4 rfl (lv_at hl 0 rfl) ?_
  refine lv_bipush (v := 72) C.1 C.2.1 dd_X9_init_5 (by decide) ?_
  refine en_newa (sh := 21) (N := 72) (ty := .byte) (atype := .byte) C hsz hP hS hM rfl na_byte (by decide +kernel) (by decide +kernel) (by decide) rfl ⟨1, rfl⟩ (fun h => h) (fun _ => rfl) (by decide) (by decide) (Nat.le_of_ble_eq_true rfl) (Nat.le_of_ble_eq_true rfl) (Nat.le_of_ble_eq_true rfl) dd_X9_init_7 (fun H hsz hP hS => ?_)
  have hM : zfrM 6 (M) := zfrM_le hM (by decide)
  have hF : zfrF 6 (F) := zfrF_le hF (by decide)
  refine en_putR (o := 4) (q := 5) C hnam hsz hP hS gf_RX9_9 (fun q h => by cases h; exact ⟨rfl, rfl⟩) (by decide) (by decide +kernel) (by decide +kernel) rfl rfl dd_X9_init_9 (fun H locs hsz hP hS => ?_)
  have hF : zfrF 6 (rup (F) 4 0 5) := zfrF_up hF (by decide)
  refine lv_aload_n C.1 C.2.1 dd_X9_init_12 rfl (lv_at hl 0 rfl) ?_
  refine lv_bipush (v := 8) C.1 C.2.1 dd_X9_init_13 (by decide) ?_
  refine en_newa (sh := 20) (N := 8) (ty := .int) (atype := .int) C hsz hP hS hM rfl na_int (by decide +kernel) (by decide +kernel) (by decide) rfl ⟨0, rfl⟩ (fun h => h) (fun _ => rfl) (by decide) (by decide) (Nat.le_of_ble_eq_true rfl) (Nat.le_of_ble_eq_true rfl) (Nat.le_of_ble_eq_true rfl) dd_X9_init_15 (fun H hsz hP hS => ?_)
  have hM : zfrM 7 (M) := zfrM_le hM (by decide)
  have hF : zfrF 7 (rup (F) 4 0 5) := zfrF_le hF (by decide)
  refine en_putR (o := 4) (q := 6) C hnam hsz hP hS gf_RX9_15 (fun q h => by cases h; exact ⟨rfl, rfl⟩) (by decide) (by decide +kernel) (by decide +kernel) rfl rfl dd_X9_init_17 (fun H locs hsz hP hS => ?_)
  have hF : zfrF 7 (rup (rup (F) 4 0 5) 4 1 6) := zfrF_up hF (by decide)
  refine lv_aload_n C.1 C.2.1 dd_X9_init_20 rfl (lv_at hl 0 rfl) ?_
  refine lv_iconst (v := 5) C.1 C.2.1 dd_X9_init_21 (by decide) ?_
  refine en_newa (sh := 20) (N := 5) (ty := .int) (atype := .int) C hsz hP hS hM rfl na_int (by decide +kernel) (by decide +kernel) (by decide) rfl ⟨0, rfl⟩ (fun h => h) (fun _ => rfl) (by decide) (by decide) (Nat.le_of_ble_eq_true rfl) (Nat.le_of_ble_eq_true rfl) (Nat.le_of_ble_eq_true rfl) dd_X9_init_22 (fun H hsz hP hS => ?_)
  have hM : zfrM 8 (M) := zfrM_le hM (by decide)
  have hF : zfrF 8 (rup (rup (F) 4 0 5) 4 1 6) := zfrF_le hF (by decide)
  refine en_putR (o := 4) (q := 7) C hnam hsz hP hS gf_RX9_19 (fun q h => by cases h; exact ⟨rfl, rfl⟩) (by decide) (by decide +kernel) (by decide +kernel) rfl rfl dd_X9_init_24 (fun H locs hsz hP hS => ?_)
  have hF : zfrF 8 (rup (rup (rup (F) 4 0 5) 4 1 6) 4 2 7) := zfrF_up hF (by decide)
  refine lv_aload_n C.1 C.2.1 dd_X9_init_27 rfl (lv_at hl 0 rfl) ?_
  refine lv_iconst (v := 5) C.1 C.2.1 dd_X9_init_28 (by decide) ?_
  refine en_newa (sh := 20) (N := 5) (ty := .int) (atype := .int) C hsz hP hS hM rfl na_int (by decide +kernel) (by decide +kernel) (by decide) rfl ⟨0, rfl⟩ (fun h => h) (fun _ => rfl) (by decide) (by decide) (Nat.le_of_ble_eq_true rfl) (Nat.le_of_ble_eq_true rfl) (Nat.le_of_ble_eq_true rfl) dd_X9_init_29 (fun H hsz hP hS => ?_)
  have hM : zfrM 9 (M) := zfrM_le hM (by decide)
  have hF : zfrF 9 (rup (rup (rup (F) 4 0 5) 4 1 6) 4 2 7) := zfrF_le hF (by decide)
  refine en_putR (o := 4) (q := 8) C hnam hsz hP hS gf_RX9_22 (fun q h => by cases h; exact ⟨rfl, rfl⟩) (by decide) (by decide +kernel) (by decide +kernel) rfl rfl dd_X9_init_31 (fun H locs hsz hP hS => ?_)
  have hF : zfrF 9 (rup (rup (rup (rup (F) 4 0 5) 4 1 6) 4 2 7) 4 3 8) := zfrF_up hF (by decide)
  refine lv_aload_n C.1 C.2.1 dd_X9_init_34 rfl (lv_at hl 0 rfl) ?_
  refine lv_iconst (v := 0) C.1 C.2.1 dd_X9_init_35 (by decide) ?_
  refine en_putI (o := 4) (v := 0) C hsz hP hS gw_RX9_25 (by decide) (by decide +kernel) (by decide +kernel) (by decide) (by decide) dd_X9_init_36 (fun H locs hsz hP hS => ?_)
  have hM : zfrM 9 (zup (M) 4 4 0) := zfrM_up hM (by decide)
  refine lv_aload_n C.1 C.2.1 dd_X9_init_39 rfl (lv_at hl 0 rfl) ?_
  refine lv_iconst (v := 0) C.1 C.2.1 dd_X9_init_40 (by decide) ?_
  refine en_putI (o := 4) (v := 0) C hsz hP hS gw_RX9_29 (by decide) (by decide +kernel) (by decide +kernel) (by decide) (by decide) dd_X9_init_41 (fun H locs hsz hP hS => ?_)
  have hM : zfrM 9 (zup (zup (M) 4 4 0) 4 5 0) := zfrM_up hM (by decide)
  exact en_ret C rfl dd_X9_init_44 hsz hP hS rfl rfl rfl
def MX_X0_init_9 (M : zM) : zM := zup (zup (M) 9 3 0) 9 4 0
def FX_X0_init_9 (F : zF2) : zF2 := rup (rup (rup (F) 9 0 10) 9 1 11) 9 2 12
theorem frM_X0_init_9 {M : zM} (h : zfrM 10 M) : zfrM 13 (MX_X0_init_9 M) := (zfrM_up (zfrM_up (zfrM_le h (by decide) : zfrM 13 M) (by decide)) (by decide))
theorem frF_X0_init_9 {F : zF2} (h : zfrF 10 F) : zfrF 13 (FX_X0_init_9 F) := (zfrF_up (zfrF_up (zfrF_up (zfrF_le h (by decide) : zfrF 13 F) (by decide)) (by decide)) (by decide))
set_option maxHeartbeats 2000000 in
set_option maxRecDepth 50000 in
theorem cn_X0_init_9 (l : Launch) (G : zG) (M : zM) (F : zF2) (hM : zfrM 10 M) (hF : zfrF 10 F) : zMn l G Y_X0_init 1 3 747 [.ref (G.2.1 + 9)] 10 M F 13 (MX_X0_init_9 M) (FX_X0_init_9 F) := by
  refine zMn_of (by decide +kernel) rfl (Nat.le_of_ble_eq_true rfl) ?_
  intro p e s m args below meth c ls C hnam hsz hP hl
  have hS : va_S (zA G) s.heap s.heap [] := va_S.rf
  have hl : lv_has ls 1 [(0, .ref (G.2.1 + 9))] := hl
  refine lv_aload_n C.1 C.2.1 dd_X0_init_0 rfl (lv_at hl 0 rfl) ?_
  refine en_obj C no_RX0_3 no_i no_c (hl.1.trans C.2.2.2.1.symm) (Nat.le_of_ble_eq_true rfl) (Nat.le_of_ble_eq_true rfl) (Nat.le_of_ble_eq_true rfl) dd_X0_init_1 ?_
  refine lv_aload_n C.1 C.2.1 dd_X0_init_4 rfl (lv_at hl 0 rfl) ?_
  refine lv_bipush (v := 7) C.1 C.2.1 dd_X0_init_5 (by decide) ?_
  refine en_newa (sh := 20) (N := 7) (ty := .int) (atype := .int) C hsz hP hS hM rfl na_int (by decide +kernel) (by decide +kernel) (by decide) rfl ⟨0, rfl⟩ (fun h => h) (fun _ => rfl) (by decide) (by decide) (Nat.le_of_ble_eq_true rfl) (Nat.le_of_ble_eq_true rfl) (Nat.le_of_ble_eq_true rfl) dd_X0_init_7 (fun H hsz hP hS => ?_)
  have hM : zfrM 11 (M) := zfrM_le hM (by decide)
  have hF : zfrF 11 (F) := zfrF_le hF (by decide)
  refine en_putR (o := 9) (q := 10) C hnam hsz hP hS gf_RX0_11 (fun q h => by cases h; exact ⟨rfl, rfl⟩) (by decide) (by decide +kernel) (by decide +kernel) rfl rfl dd_X0_init_9 (fun H locs hsz hP hS => ?_)
  have hF : zfrF 11 (rup (F) 9 0 10) := zfrF_up hF (by decide)
  refine lv_aload_n C.1 C.2.1 dd_X0_init_12 rfl (lv_at hl 0 rfl) ?_
  refine lv_sipush (v := 700) C.1 C.2.1 dd_X0_init_13 (by decide) ?_
  refine en_newa (sh := 20) (N := 700) (ty := .int) (atype := .int) C hsz hP hS hM rfl na_int (by decide +kernel) (by decide +kernel) (by decide) rfl ⟨0, rfl⟩ (fun h => h) (fun _ => rfl) (by decide) (by decide) (Nat.le_of_ble_eq_true rfl) (Nat.le_of_ble_eq_true rfl) (Nat.le_of_ble_eq_true rfl) dd_X0_init_16 (fun H hsz hP hS => ?_)
  have hM : zfrM 12 (M) := zfrM_le hM (by decide)
  have hF : zfrF 12 (rup (F) 9 0 10) := zfrF_le hF (by decide)
  refine en_putR (o := 9) (q := 11) C hnam hsz hP hS gf_RX0_15 (fun q h => by cases h; exact ⟨rfl, rfl⟩) (by decide) (by decide +kernel) (by decide +kernel) rfl rfl dd_X0_init_18 (fun H locs hsz hP hS => ?_)
  have hF : zfrF 12 (rup (rup (F) 9 0 10) 9 1 11) := zfrF_up hF (by decide)
  refine lv_aload_n C.1 C.2.1 dd_X0_init_21 rfl (lv_at hl 0 rfl) ?_
  refine lv_bipush (v := 40) C.1 C.2.1 dd_X0_init_22 (by decide) ?_
  refine en_newa (sh := 20) (N := 40) (ty := .int) (atype := .int) C hsz hP hS hM rfl na_int (by decide +kernel) (by decide +kernel) (by decide) rfl ⟨0, rfl⟩ (fun h => h) (fun _ => rfl) (by decide) (by decide) (Nat.le_of_ble_eq_true rfl) (Nat.le_of_ble_eq_true rfl) (Nat.le_of_ble_eq_true rfl) dd_X0_init_24 (fun H hsz hP hS => ?_)
  have hM : zfrM 13 (M) := zfrM_le hM (by decide)
  have hF : zfrF 13 (rup (rup (F) 9 0 10) 9 1 11) := zfrF_le hF (by decide)
  refine en_putR (o := 9) (q := 12) C hnam hsz hP hS gf_RX0_18 (fun q h => by cases h; exact ⟨rfl, rfl⟩) (by decide) (by decide +kernel) (by decide +kernel) rfl rfl dd_X0_init_26 (fun H locs hsz hP hS => ?_)
  have hF : zfrF 13 (rup (rup (rup (F) 9 0 10) 9 1 11) 9 2 12) := zfrF_up hF (by decide)
  refine lv_aload_n C.1 C.2.1 dd_X0_init_29 rfl (lv_at hl 0 rfl) ?_
  refine lv_iconst (v := 0) C.1 C.2.1 dd_X0_init_30 (by decide) ?_
  refine en_putI (o := 9) (v := 0) C hsz hP hS gw_RX0_21 (by decide) (by decide +kernel) (by decide +kernel) (by decide) (by decide) dd_X0_init_31 (fun H locs hsz hP hS => ?_)
  have hM : zfrM 13 (zup (M) 9 3 0) := zfrM_up hM (by decide)
  refine lv_aload_n C.1 C.2.1 dd_X0_init_34 rfl (lv_at hl 0 rfl) ?_
  refine lv_iconst (v := 0) C.1 C.2.1 dd_X0_init_35 (by decide) ?_
  refine en_putI (o := 9) (v := 0) C hsz hP hS gw_RX0_25 (by decide) (by decide +kernel) (by decide +kernel) (by decide) (by decide) dd_X0_init_36 (fun H locs hsz hP hS => ?_)
  have hM : zfrM 13 (zup (zup (M) 9 3 0) 9 4 0) := zfrM_up hM (by decide)
  exact en_ret C rfl dd_X0_init_39 hsz hP hS rfl rfl rfl
def MX_X6_init_3 (M : zM) : zM := MX_X0_init_9 (MX_X9_init_4 (zup (zup (zup (zup (M) 3 0 0) 3 1 0) 3 2 3) 3 3 0))
def FX_X6_init_3 (F : zF2) : zF2 := rup (rup (rup (rup (rup (rup (rup (rup (rup (FX_X0_init_9 (rup (FX_X9_init_4 (F)) 3 4 4)) 3 5 9) 3 6 13) 3 7 14) 3 8 15) 3 9 16) 3 10 17) 3 11 18) 3 12 19) 3 13 20
theorem frM_X6_init_3 {M : zM} (h : zfrM 4 M) : zfrM 21 (MX_X6_init_3 M) := (zfrM_le (k' := 21) (frM_X0_init_9 (zfrM_le (k' := 10) (frM_X9_init_4 (zfrM_up (zfrM_up (zfrM_up (zfrM_up (zfrM_le h (by decide) : zfrM 5 M) (by decide)) (by decide)) (by decide)) (by decide))) (by decide))) (by decide))
theorem frF_X6_init_3 {F : zF2} (h : zfrF 4 F) : zfrF 21 (FX_X6_init_3 F) := (zfrF_up (zfrF_up (zfrF_up (zfrF_up (zfrF_up (zfrF_up (zfrF_up (zfrF_up (zfrF_up (zfrF_le (k' := 21) (frF_X0_init_9 (zfrF_up (zfrF_le (k' := 10) (frF_X9_init_4 (zfrF_le h (by decide) : zfrF 5 F)) (by decide)) (by decide))) (by decide)) (by decide)) (by decide)) (by decide)) (by decide)) (by decide)) (by decide)) (by decide)) (by decide)) (by decide))
set_option maxHeartbeats 2000000 in
set_option maxRecDepth 50000 in
theorem cn_X6_init_3 (l : Launch) (G : zG) (M : zM) (F : zF2) (hM : zfrM 4 M) (hF : zfrF 4 F) : zMn l G Y_X6_init 2 17 980 [.ref (G.2.1 + 3)] 4 M F 21 (MX_X6_init_3 M) (FX_X6_init_3 F) := by
  refine zMn_of (by decide +kernel) rfl (Nat.le_of_ble_eq_true rfl) ?_
  intro p e s m args below meth c ls C hnam hsz hP hl
  have hS : va_S (zA G) s.heap s.heap [] := va_S.rf
  have hl : lv_has ls 1 [(0, .ref (G.2.1 + 3))] := hl
  refine lv_aload_n C.1 C.2.1 dd_X6_init_0 rfl (lv_at hl 0 rfl) ?_
  refine en_obj C no_RX6_3 no_i no_c (hl.1.trans C.2.2.2.1.symm) (Nat.le_of_ble_eq_true rfl) (Nat.le_of_ble_eq_true rfl) (Nat.le_of_ble_eq_true rfl) dd_X6_init_1 ?_
  refine lv_aload_n C.1 C.2.1 dd_X6_init_4 rfl (lv_at hl 0 rfl) ?_
  refine lv_iconst (v := 0) C.1 C.2.1 dd_X6_init_5 (by decide) ?_
  refine en_putI (o := 3) (v := 0) C hsz hP hS gw_RX6_9 (by decide) (by decide +kernel) (by decide +kernel) (by decide) (by decide) dd_X6_init_6 (fun H locs hsz hP hS => ?_)
  have hM : zfrM 4 (zup (M) 3 0 0) := zfrM_up hM (by decide)
  refine lv_aload_n C.1 C.2.1 dd_X6_init_9 rfl (lv_at hl 0 rfl) ?_
  refine lv_iconst (v := 0) C.1 C.2.1 dd_X6_init_10 (by decide) ?_
  refine en_putI (o := 3) (v := 0) C hsz hP hS gw_RX6_15 (by decide) (by decide +kernel) (by decide +kernel) (by decide) (by decide) dd_X6_init_11 (fun H locs hsz hP hS => ?_)
  have hM : zfrM 4 (zup (zup (M) 3 0 0) 3 1 0) := zfrM_up hM (by decide)
  refine lv_aload_n C.1 C.2.1 dd_X6_init_14 rfl (lv_at hl 0 rfl) ?_
  refine lv_iconst (v := 3) C.1 C.2.1 dd_X6_init_15 (by decide) ?_
  refine en_putI (o := 3) (v := 3) C hsz hP hS gw_RX6_18 (by decide) (by decide +kernel) (by decide +kernel) (by decide) (by decide) dd_X6_init_16 (fun H locs hsz hP hS => ?_)
  have hM : zfrM 4 (zup (zup (zup (M) 3 0 0) 3 1 0) 3 2 3) := zfrM_up hM (by decide)
  refine lv_aload_n C.1 C.2.1 dd_X6_init_19 rfl (lv_at hl 0 rfl) ?_
  refine lv_iconst (v := 0) C.1 C.2.1 dd_X6_init_20 (by decide) ?_
  refine en_putI (o := 3) (v := 0) C hsz hP hS gw_RX6_21 (by decide) (by decide +kernel) (by decide +kernel) (by decide) (by decide) dd_X6_init_21 (fun H locs hsz hP hS => ?_)
  have hM : zfrM 4 (zup (zup (zup (zup (M) 3 0 0) 3 1 0) 3 2 3) 3 3 0) := zfrM_up hM (by decide)
  refine lv_aload_n C.1 C.2.1 dd_X6_init_24 rfl (lv_at hl 0 rfl) ?_
  refine en_new (ci := 9) tyX9 C hsz hP hS hM hF rfl inX_9 tyX9_ok nl_RX6_25 ni_RX9 nn_RX9 (by decide +kernel) (by decide) (by decide +kernel) (df_9 _) (Nat.le_of_ble_eq_true rfl) (Nat.le_of_ble_eq_true rfl) dd_X6_init_25 (fun H hsz hP hS => ?_)
  have hM : zfrM 5 (zup (zup (zup (zup (M) 3 0 0) 3 1 0) 3 2 3) 3 3 0) := zfrM_le hM (by decide)
  have hF : zfrF 5 (F) := zfrF_le hF (by decide)
  refine lv_dup C.1 C.2.1 dd_X6_init_28 rfl ?_
  refine en_callN (As := []) (n := 0) C hsz hP hS hl.1 (cn_X9_init_4 l G (zup (zup (zup (zup (M) 3 0 0) 3 1 0) 3 2 3) 3 3 0) (F) hM hF) nm_X9_init rfl rfl (by decide +kernel) nx_X9_init (by decide +kernel) ⟨(Nat.le_of_ble_eq_true rfl), (Nat.le_of_ble_eq_true rfl)⟩ ⟨(Nat.le_of_ble_eq_true rfl), (Nat.le_of_ble_eq_true rfl)⟩ (Nat.le_of_ble_eq_true rfl) rfl dd_X6_init_29 rfl (fun H locs hsz hP hS => ?_)
  have hM : zfrM 9 (MX_X9_init_4 (zup (zup (zup (zup (M) 3 0 0) 3 1 0) 3 2 3) 3 3 0)) := frM_X9_init_4 hM
  have hF : zfrF 9 (FX_X9_init_4 (F)) := frF_X9_init_4 hF
  refine en_putR (o := 3) (q := 4) C hnam hsz hP hS gf_RX6_28 (fun q h => by cases h; exact ⟨rfl, rfl⟩) (by decide) (by decide +kernel) (by decide +kernel) rfl rfl dd_X6_init_32 (fun H locs hsz hP hS => ?_)
  have hF : zfrF 9 (rup (FX_X9_init_4 (F)) 3 4 4) := zfrF_up hF (by decide)
  refine lv_aload_n C.1 C.2.1 dd_X6_init_35 rfl (lv_at hl 0 rfl) ?_
  refine en_new (ci := 0) tyX0 C hsz hP hS hM hF rfl inX_0 tyX0_ok nl_RX6_32 ni_RX0 nn_RX0 (by decide +kernel) (by decide) (by decide +kernel) (df_0 _) (Nat.le_of_ble_eq_true rfl) (Nat.le_of_ble_eq_true rfl) dd_X6_init_36 (fun H hsz hP hS => ?_)
  have hM : zfrM 10 (MX_X9_init_4 (zup (zup (zup (zup (M) 3 0 0) 3 1 0) 3 2 3) 3 3 0)) := zfrM_le hM (by decide)
  have hF : zfrF 10 (rup (FX_X9_init_4 (F)) 3 4 4) := zfrF_le hF (by decide)
  refine lv_dup C.1 C.2.1 dd_X6_init_39 rfl ?_
  refine en_callN (As := []) (n := 0) C hsz hP hS hl.1 (cn_X0_init_9 l G (MX_X9_init_4 (zup (zup (zup (zup (M) 3 0 0) 3 1 0) 3 2 3) 3 3 0)) (rup (FX_X9_init_4 (F)) 3 4 4) hM hF) nm_X0_init rfl rfl (by decide +kernel) nx_X0_init (by decide +kernel) ⟨(Nat.le_of_ble_eq_true rfl), (Nat.le_of_ble_eq_true rfl)⟩ ⟨(Nat.le_of_ble_eq_true rfl), (Nat.le_of_ble_eq_true rfl)⟩ (Nat.le_of_ble_eq_true rfl) rfl dd_X6_init_40 rfl (fun H locs hsz hP hS => ?_)
  have hM : zfrM 13 (MX_X0_init_9 (MX_X9_init_4 (zup (zup (zup (zup (M) 3 0 0) 3 1 0) 3 2 3) 3 3 0))) := frM_X0_init_9 hM
  have hF : zfrF 13 (FX_X0_init_9 (rup (FX_X9_init_4 (F)) 3 4 4)) := frF_X0_init_9 hF
  refine en_putR (o := 3) (q := 9) C hnam hsz hP hS gf_RX6_35 (fun q h => by cases h; exact ⟨rfl, rfl⟩) (by decide) (by decide +kernel) (by decide +kernel) rfl rfl dd_X6_init_43 (fun H locs hsz hP hS => ?_)
  have hF : zfrF 13 (rup (FX_X0_init_9 (rup (FX_X9_init_4 (F)) 3 4 4)) 3 5 9) := zfrF_up hF (by decide)
  refine lv_aload_n C.1 C.2.1 dd_X6_init_46 rfl (lv_at hl 0 rfl) ?_
  refine lv_bipush (v := 8) C.1 C.2.1 dd_X6_init_47 (by decide) ?_
  refine en_newa (sh := 20) (N := 8) (ty := .int) (atype := .int) C hsz hP hS hM rfl na_int (by decide +kernel) (by decide +kernel) (by decide) rfl ⟨0, rfl⟩ (fun h => h) (fun _ => rfl) (by decide) (by decide) (Nat.le_of_ble_eq_true rfl) (Nat.le_of_ble_eq_true rfl) (Nat.le_of_ble_eq_true rfl) dd_X6_init_49 (fun H hsz hP hS => ?_)
  have hM : zfrM 14 (MX_X0_init_9 (MX_X9_init_4 (zup (zup (zup (zup (M) 3 0 0) 3 1 0) 3 2 3) 3 3 0))) := zfrM_le hM (by decide)
  have hF : zfrF 14 (rup (FX_X0_init_9 (rup (FX_X9_init_4 (F)) 3 4 4)) 3 5 9) := zfrF_le hF (by decide)
  refine en_putR (o := 3) (q := 13) C hnam hsz hP hS gf_RX6_39 (fun q h => by cases h; exact ⟨rfl, rfl⟩) (by decide) (by decide +kernel) (by decide +kernel) rfl rfl dd_X6_init_51 (fun H locs hsz hP hS => ?_)
  have hF : zfrF 14 (rup (rup (FX_X0_init_9 (rup (FX_X9_init_4 (F)) 3 4 4)) 3 5 9) 3 6 13) := zfrF_up hF (by decide)
  refine lv_aload_n C.1 C.2.1 dd_X6_init_54 rfl (lv_at hl 0 rfl) ?_
  refine lv_bipush (v := 8) C.1 C.2.1 dd_X6_init_55 (by decide) ?_
  refine en_newa (sh := 20) (N := 8) (ty := .int) (atype := .int) C hsz hP hS hM rfl na_int (by decide +kernel) (by decide +kernel) (by decide) rfl ⟨0, rfl⟩ (fun h => h) (fun _ => rfl) (by decide) (by decide) (Nat.le_of_ble_eq_true rfl) (Nat.le_of_ble_eq_true rfl) (Nat.le_of_ble_eq_true rfl) dd_X6_init_57 (fun H hsz hP hS => ?_)
  have hM : zfrM 15 (MX_X0_init_9 (MX_X9_init_4 (zup (zup (zup (zup (M) 3 0 0) 3 1 0) 3 2 3) 3 3 0))) := zfrM_le hM (by decide)
  have hF : zfrF 15 (rup (rup (FX_X0_init_9 (rup (FX_X9_init_4 (F)) 3 4 4)) 3 5 9) 3 6 13) := zfrF_le hF (by decide)
  refine en_putR (o := 3) (q := 14) C hnam hsz hP hS gf_RX6_43 (fun q h => by cases h; exact ⟨rfl, rfl⟩) (by decide) (by decide +kernel) (by decide +kernel) rfl rfl dd_X6_init_59 (fun H locs hsz hP hS => ?_)
  have hF : zfrF 15 (rup (rup (rup (FX_X0_init_9 (rup (FX_X9_init_4 (F)) 3 4 4)) 3 5 9) 3 6 13) 3 7 14) := zfrF_up hF (by decide)
  refine lv_aload_n C.1 C.2.1 dd_X6_init_62 rfl (lv_at hl 0 rfl) ?_
  refine lv_bipush (v := 8) C.1 C.2.1 dd_X6_init_63 (by decide) ?_
  refine en_newa (sh := 20) (N := 8) (ty := .int) (atype := .int) C hsz hP hS hM rfl na_int (by decide +kernel) (by decide +kernel) (by decide) rfl ⟨0, rfl⟩ (fun h => h) (fun _ => rfl) (by decide) (by decide) (Nat.le_of_ble_eq_true rfl) (Nat.le_of_ble_eq_true rfl) (Nat.le_of_ble_eq_true rfl) dd_X6_init_65 (fun H hsz hP hS => ?_)
  have hM : zfrM 16 (MX_X0_init_9 (MX_X9_init_4 (zup (zup (zup (zup (M) 3 0 0) 3 1 0) 3 2 3) 3 3 0))) := zfrM_le hM (by decide)
  have hF : zfrF 16 (rup (rup (rup (FX_X0_init_9 (rup (FX_X9_init_4 (F)) 3 4 4)) 3 5 9) 3 6 13) 3 7 14) := zfrF_le hF (by decide)
  refine en_putR (o := 3) (q := 15) C hnam hsz hP hS gf_RX6_46 (fun q h => by cases h; exact ⟨rfl, rfl⟩) (by decide) (by decide +kernel) (by decide +kernel) rfl rfl dd_X6_init_67 (fun H locs hsz hP hS => ?_)
  have hF : zfrF 16 (rup (rup (rup (rup (FX_X0_init_9 (rup (FX_X9_init_4 (F)) 3 4 4)) 3 5 9) 3 6 13) 3 7 14) 3 8 15) := zfrF_up hF (by decide)
  refine lv_aload_n C.1 C.2.1 dd_X6_init_70 rfl (lv_at hl 0 rfl) ?_
  refine lv_bipush (v := 8) C.1 C.2.1 dd_X6_init_71 (by decide) ?_
  refine en_newa (sh := 20) (N := 8) (ty := .int) (atype := .int) C hsz hP hS hM rfl na_int (by decide +kernel) (by decide +kernel) (by decide) rfl ⟨0, rfl⟩ (fun h => h) (fun _ => rfl) (by decide) (by decide) (Nat.le_of_ble_eq_true rfl) (Nat.le_of_ble_eq_true rfl) (Nat.le_of_ble_eq_true rfl) dd_X6_init_73 (fun H hsz hP hS => ?_)
  have hM : zfrM 17 (MX_X0_init_9 (MX_X9_init_4 (zup (zup (zup (zup (M) 3 0 0) 3 1 0) 3 2 3) 3 3 0))) := zfrM_le hM (by decide)
  have hF : zfrF 17 (rup (rup (rup (rup (FX_X0_init_9 (rup (FX_X9_init_4 (F)) 3 4 4)) 3 5 9) 3 6 13) 3 7 14) 3 8 15) := zfrF_le hF (by decide)
  refine en_putR (o := 3) (q := 16) C hnam hsz hP hS gf_RX6_49 (fun q h => by cases h; exact ⟨rfl, rfl⟩) (by decide) (by decide +kernel) (by decide +kernel) rfl rfl dd_X6_init_75 (fun H locs hsz hP hS => ?_)
  have hF : zfrF 17 (rup (rup (rup (rup (rup (FX_X0_init_9 (rup (FX_X9_init_4 (F)) 3 4 4)) 3 5 9) 3 6 13) 3 7 14) 3 8 15) 3 9 16) := zfrF_up hF (by decide)
  refine lv_aload_n C.1 C.2.1 dd_X6_init_78 rfl (lv_at hl 0 rfl) ?_
  refine lv_bipush (v := 64) C.1 C.2.1 dd_X6_init_79 (by decide) ?_
  refine en_newa (sh := 20) (N := 64) (ty := .int) (atype := .int) C hsz hP hS hM rfl na_int (by decide +kernel) (by decide +kernel) (by decide) rfl ⟨0, rfl⟩ (fun h => h) (fun _ => rfl) (by decide) (by decide) (Nat.le_of_ble_eq_true rfl) (Nat.le_of_ble_eq_true rfl) (Nat.le_of_ble_eq_true rfl) dd_X6_init_81 (fun H hsz hP hS => ?_)
  have hM : zfrM 18 (MX_X0_init_9 (MX_X9_init_4 (zup (zup (zup (zup (M) 3 0 0) 3 1 0) 3 2 3) 3 3 0))) := zfrM_le hM (by decide)
  have hF : zfrF 18 (rup (rup (rup (rup (rup (FX_X0_init_9 (rup (FX_X9_init_4 (F)) 3 4 4)) 3 5 9) 3 6 13) 3 7 14) 3 8 15) 3 9 16) := zfrF_le hF (by decide)
  refine en_putR (o := 3) (q := 17) C hnam hsz hP hS gf_RX6_52 (fun q h => by cases h; exact ⟨rfl, rfl⟩) (by decide) (by decide +kernel) (by decide +kernel) rfl rfl dd_X6_init_83 (fun H locs hsz hP hS => ?_)
  have hF : zfrF 18 (rup (rup (rup (rup (rup (rup (FX_X0_init_9 (rup (FX_X9_init_4 (F)) 3 4 4)) 3 5 9) 3 6 13) 3 7 14) 3 8 15) 3 9 16) 3 10 17) := zfrF_up hF (by decide)
  refine lv_aload_n C.1 C.2.1 dd_X6_init_86 rfl (lv_at hl 0 rfl) ?_
  refine lv_bipush (v := 12) C.1 C.2.1 dd_X6_init_87 (by decide) ?_
  refine en_newa (sh := 20) (N := 12) (ty := .int) (atype := .int) C hsz hP hS hM rfl na_int (by decide +kernel) (by decide +kernel) (by decide) rfl ⟨0, rfl⟩ (fun h => h) (fun _ => rfl) (by decide) (by decide) (Nat.le_of_ble_eq_true rfl) (Nat.le_of_ble_eq_true rfl) (Nat.le_of_ble_eq_true rfl) dd_X6_init_89 (fun H hsz hP hS => ?_)
  have hM : zfrM 19 (MX_X0_init_9 (MX_X9_init_4 (zup (zup (zup (zup (M) 3 0 0) 3 1 0) 3 2 3) 3 3 0))) := zfrM_le hM (by decide)
  have hF : zfrF 19 (rup (rup (rup (rup (rup (rup (FX_X0_init_9 (rup (FX_X9_init_4 (F)) 3 4 4)) 3 5 9) 3 6 13) 3 7 14) 3 8 15) 3 9 16) 3 10 17) := zfrF_le hF (by decide)
  refine en_putR (o := 3) (q := 18) C hnam hsz hP hS gf_RX6_55 (fun q h => by cases h; exact ⟨rfl, rfl⟩) (by decide) (by decide +kernel) (by decide +kernel) rfl rfl dd_X6_init_91 (fun H locs hsz hP hS => ?_)
  have hF : zfrF 19 (rup (rup (rup (rup (rup (rup (rup (FX_X0_init_9 (rup (FX_X9_init_4 (F)) 3 4 4)) 3 5 9) 3 6 13) 3 7 14) 3 8 15) 3 9 16) 3 10 17) 3 11 18) := zfrF_up hF (by decide)
  refine lv_aload_n C.1 C.2.1 dd_X6_init_94 rfl (lv_at hl 0 rfl) ?_
  refine lv_bipush (v := 12) C.1 C.2.1 dd_X6_init_95 (by decide) ?_
  refine en_newa (sh := 20) (N := 12) (ty := .int) (atype := .int) C hsz hP hS hM rfl na_int (by decide +kernel) (by decide +kernel) (by decide) rfl ⟨0, rfl⟩ (fun h => h) (fun _ => rfl) (by decide) (by decide) (Nat.le_of_ble_eq_true rfl) (Nat.le_of_ble_eq_true rfl) (Nat.le_of_ble_eq_true rfl) dd_X6_init_97 (fun H hsz hP hS => ?_)
  have hM : zfrM 20 (MX_X0_init_9 (MX_X9_init_4 (zup (zup (zup (zup (M) 3 0 0) 3 1 0) 3 2 3) 3 3 0))) := zfrM_le hM (by decide)
  have hF : zfrF 20 (rup (rup (rup (rup (rup (rup (rup (FX_X0_init_9 (rup (FX_X9_init_4 (F)) 3 4 4)) 3 5 9) 3 6 13) 3 7 14) 3 8 15) 3 9 16) 3 10 17) 3 11 18) := zfrF_le hF (by decide)
  refine en_putR (o := 3) (q := 19) C hnam hsz hP hS gf_RX6_58 (fun q h => by cases h; exact ⟨rfl, rfl⟩) (by decide) (by decide +kernel) (by decide +kernel) rfl rfl dd_X6_init_99 (fun H locs hsz hP hS => ?_)
  have hF : zfrF 20 (rup (rup (rup (rup (rup (rup (rup (rup (FX_X0_init_9 (rup (FX_X9_init_4 (F)) 3 4 4)) 3 5 9) 3 6 13) 3 7 14) 3 8 15) 3 9 16) 3 10 17) 3 11 18) 3 12 19) := zfrF_up hF (by decide)
  refine lv_aload_n C.1 C.2.1 dd_X6_init_102 rfl (lv_at hl 0 rfl) ?_
  refine lv_bipush (v := 12) C.1 C.2.1 dd_X6_init_103 (by decide) ?_
  refine en_newa (sh := 20) (N := 12) (ty := .int) (atype := .int) C hsz hP hS hM rfl na_int (by decide +kernel) (by decide +kernel) (by decide) rfl ⟨0, rfl⟩ (fun h => h) (fun _ => rfl) (by decide) (by decide) (Nat.le_of_ble_eq_true rfl) (Nat.le_of_ble_eq_true rfl) (Nat.le_of_ble_eq_true rfl) dd_X6_init_105 (fun H hsz hP hS => ?_)
  have hM : zfrM 21 (MX_X0_init_9 (MX_X9_init_4 (zup (zup (zup (zup (M) 3 0 0) 3 1 0) 3 2 3) 3 3 0))) := zfrM_le hM (by decide)
  have hF : zfrF 21 (rup (rup (rup (rup (rup (rup (rup (rup (FX_X0_init_9 (rup (FX_X9_init_4 (F)) 3 4 4)) 3 5 9) 3 6 13) 3 7 14) 3 8 15) 3 9 16) 3 10 17) 3 11 18) 3 12 19) := zfrF_le hF (by decide)
  refine en_putR (o := 3) (q := 20) C hnam hsz hP hS gf_RX6_61 (fun q h => by cases h; exact ⟨rfl, rfl⟩) (by decide) (by decide +kernel) (by decide +kernel) rfl rfl dd_X6_init_107 (fun H locs hsz hP hS => ?_)
  have hF : zfrF 21 (rup (rup (rup (rup (rup (rup (rup (rup (rup (FX_X0_init_9 (rup (FX_X9_init_4 (F)) 3 4 4)) 3 5 9) 3 6 13) 3 7 14) 3 8 15) 3 9 16) 3 10 17) 3 11 18) 3 12 19) 3 13 20) := zfrF_up hF (by decide)
  exact en_ret C rfl dd_X6_init_110 hsz hP hS rfl rfl rfl
def MX_X9_init_22 (M : zM) : zM := zup (zup (M) 22 4 0) 22 5 0
def FX_X9_init_22 (F : zF2) : zF2 := rup (rup (rup (rup (F) 22 0 23) 22 1 24) 22 2 25) 22 3 26
theorem frM_X9_init_22 {M : zM} (h : zfrM 23 M) : zfrM 27 (MX_X9_init_22 M) := (zfrM_up (zfrM_up (zfrM_le h (by decide) : zfrM 27 M) (by decide)) (by decide))
theorem frF_X9_init_22 {F : zF2} (h : zfrF 23 F) : zfrF 27 (FX_X9_init_22 F) := (zfrF_up (zfrF_up (zfrF_up (zfrF_up (zfrF_le h (by decide) : zfrF 27 F) (by decide)) (by decide)) (by decide)) (by decide))
set_option maxHeartbeats 2000000 in
set_option maxRecDepth 50000 in
theorem cn_X9_init_22 (l : Launch) (G : zG) (M : zM) (F : zF2) (hM : zfrM 23 M) (hF : zfrF 23 F) : zMn l G Y_X9_init 1 4 90 [.ref (G.2.1 + 22)] 23 M F 27 (MX_X9_init_22 M) (FX_X9_init_22 F) := by
  refine zMn_of (by decide +kernel) rfl (Nat.le_of_ble_eq_true rfl) ?_
  intro p e s m args below meth c ls C hnam hsz hP hl
  have hS : va_S (zA G) s.heap s.heap [] := va_S.rf
  have hl : lv_has ls 1 [(0, .ref (G.2.1 + 22))] := hl
  refine lv_aload_n C.1 C.2.1 dd_X9_init_0 rfl (lv_at hl 0 rfl) ?_
  refine en_obj C no_RX9_3 no_i no_c (hl.1.trans C.2.2.2.1.symm) (Nat.le_of_ble_eq_true rfl) (Nat.le_of_ble_eq_true rfl) (Nat.le_of_ble_eq_true rfl) dd_X9_init_1 ?_
  refine lv_aload_n C.1 C.2.1 dd_X9_init_4 rfl (lv_at hl 0 rfl) ?_
  refine lv_bipush (v := 72) C.1 C.2.1 dd_X9_init_5 (by decide) ?_
  refine en_newa (sh := 21) (N := 72) (ty := .byte) (atype := .byte) C hsz hP hS hM rfl na_byte (by decide +kernel) (by decide +kernel) (by decide) rfl ⟨1, rfl⟩ (fun h => h) (fun _ => rfl) (by decide) (by decide) (Nat.le_of_ble_eq_true rfl) (Nat.le_of_ble_eq_true rfl) (Nat.le_of_ble_eq_true rfl) dd_X9_init_7 (fun H hsz hP hS => ?_)
  have hM : zfrM 24 (M) := zfrM_le hM (by decide)
  have hF : zfrF 24 (F) := zfrF_le hF (by decide)
  refine en_putR (o := 22) (q := 23) C hnam hsz hP hS gf_RX9_9 (fun q h => by cases h; exact ⟨rfl, rfl⟩) (by decide) (by decide +kernel) (by decide +kernel) rfl rfl dd_X9_init_9 (fun H locs hsz hP hS => ?_)
  have hF : zfrF 24 (rup (F) 22 0 23) := zfrF_up hF (by decide)
  refine lv_aload_n C.1 C.2.1 dd_X9_init_12 rfl (lv_at hl 0 rfl) ?_
  refine lv_bipush (v := 8) C.1 C.2.1 dd_X9_init_13 (by decide) ?_
  refine en_newa (sh := 20) (N := 8) (ty := .int) (atype := .int) C hsz hP hS hM rfl na_int (by decide +kernel) (by decide +kernel) (by decide) rfl ⟨0, rfl⟩ (fun h => h) (fun _ => rfl) (by decide) (by decide) (Nat.le_of_ble_eq_true rfl) (Nat.le_of_ble_eq_true rfl) (Nat.le_of_ble_eq_true rfl) dd_X9_init_15 (fun H hsz hP hS => ?_)
  have hM : zfrM 25 (M) := zfrM_le hM (by decide)
  have hF : zfrF 25 (rup (F) 22 0 23) := zfrF_le hF (by decide)
  refine en_putR (o := 22) (q := 24) C hnam hsz hP hS gf_RX9_15 (fun q h => by cases h; exact ⟨rfl, rfl⟩) (by decide) (by decide +kernel) (by decide +kernel) rfl rfl dd_X9_init_17 (fun H locs hsz hP hS => ?_)
  have hF : zfrF 25 (rup (rup (F) 22 0 23) 22 1 24) := zfrF_up hF (by decide)
  refine lv_aload_n C.1 C.2.1 dd_X9_init_20 rfl (lv_at hl 0 rfl) ?_
  refine lv_iconst (v := 5) C.1 C.2.1 dd_X9_init_21 (by decide) ?_
  refine en_newa (sh := 20) (N := 5) (ty := .int) (atype := .int) C hsz hP hS hM rfl na_int (by decide +kernel) (by decide +kernel) (by decide) rfl ⟨0, rfl⟩ (fun h => h) (fun _ => rfl) (by decide) (by decide) (Nat.le_of_ble_eq_true rfl) (Nat.le_of_ble_eq_true rfl) (Nat.le_of_ble_eq_true rfl) dd_X9_init_22 (fun H hsz hP hS => ?_)
  have hM : zfrM 26 (M) := zfrM_le hM (by decide)
  have hF : zfrF 26 (rup (rup (F) 22 0 23) 22 1 24) := zfrF_le hF (by decide)
  refine en_putR (o := 22) (q := 25) C hnam hsz hP hS gf_RX9_19 (fun q h => by cases h; exact ⟨rfl, rfl⟩) (by decide) (by decide +kernel) (by decide +kernel) rfl rfl dd_X9_init_24 (fun H locs hsz hP hS => ?_)
  have hF : zfrF 26 (rup (rup (rup (F) 22 0 23) 22 1 24) 22 2 25) := zfrF_up hF (by decide)
  refine lv_aload_n C.1 C.2.1 dd_X9_init_27 rfl (lv_at hl 0 rfl) ?_
  refine lv_iconst (v := 5) C.1 C.2.1 dd_X9_init_28 (by decide) ?_
  refine en_newa (sh := 20) (N := 5) (ty := .int) (atype := .int) C hsz hP hS hM rfl na_int (by decide +kernel) (by decide +kernel) (by decide) rfl ⟨0, rfl⟩ (fun h => h) (fun _ => rfl) (by decide) (by decide) (Nat.le_of_ble_eq_true rfl) (Nat.le_of_ble_eq_true rfl) (Nat.le_of_ble_eq_true rfl) dd_X9_init_29 (fun H hsz hP hS => ?_)
  have hM : zfrM 27 (M) := zfrM_le hM (by decide)
  have hF : zfrF 27 (rup (rup (rup (F) 22 0 23) 22 1 24) 22 2 25) := zfrF_le hF (by decide)
  refine en_putR (o := 22) (q := 26) C hnam hsz hP hS gf_RX9_22 (fun q h => by cases h; exact ⟨rfl, rfl⟩) (by decide) (by decide +kernel) (by decide +kernel) rfl rfl dd_X9_init_31 (fun H locs hsz hP hS => ?_)
  have hF : zfrF 27 (rup (rup (rup (rup (F) 22 0 23) 22 1 24) 22 2 25) 22 3 26) := zfrF_up hF (by decide)
  refine lv_aload_n C.1 C.2.1 dd_X9_init_34 rfl (lv_at hl 0 rfl) ?_
  refine lv_iconst (v := 0) C.1 C.2.1 dd_X9_init_35 (by decide) ?_
  refine en_putI (o := 22) (v := 0) C hsz hP hS gw_RX9_25 (by decide) (by decide +kernel) (by decide +kernel) (by decide) (by decide) dd_X9_init_36 (fun H locs hsz hP hS => ?_)
  have hM : zfrM 27 (zup (M) 22 4 0) := zfrM_up hM (by decide)
  refine lv_aload_n C.1 C.2.1 dd_X9_init_39 rfl (lv_at hl 0 rfl) ?_
  refine lv_iconst (v := 0) C.1 C.2.1 dd_X9_init_40 (by decide) ?_
  refine en_putI (o := 22) (v := 0) C hsz hP hS gw_RX9_29 (by decide) (by decide +kernel) (by decide +kernel) (by decide) (by decide) dd_X9_init_41 (fun H locs hsz hP hS => ?_)
  have hM : zfrM 27 (zup (zup (M) 22 4 0) 22 5 0) := zfrM_up hM (by decide)
  exact en_ret C rfl dd_X9_init_44 hsz hP hS rfl rfl rfl
def MX_X0_init_27 (M : zM) : zM := zup (zup (M) 27 3 0) 27 4 0
def FX_X0_init_27 (F : zF2) : zF2 := rup (rup (rup (F) 27 0 28) 27 1 29) 27 2 30
theorem frM_X0_init_27 {M : zM} (h : zfrM 28 M) : zfrM 31 (MX_X0_init_27 M) := (zfrM_up (zfrM_up (zfrM_le h (by decide) : zfrM 31 M) (by decide)) (by decide))
theorem frF_X0_init_27 {F : zF2} (h : zfrF 28 F) : zfrF 31 (FX_X0_init_27 F) := (zfrF_up (zfrF_up (zfrF_up (zfrF_le h (by decide) : zfrF 31 F) (by decide)) (by decide)) (by decide))
set_option maxHeartbeats 2000000 in
set_option maxRecDepth 50000 in
theorem cn_X0_init_27 (l : Launch) (G : zG) (M : zM) (F : zF2) (hM : zfrM 28 M) (hF : zfrF 28 F) : zMn l G Y_X0_init 1 3 747 [.ref (G.2.1 + 27)] 28 M F 31 (MX_X0_init_27 M) (FX_X0_init_27 F) := by
  refine zMn_of (by decide +kernel) rfl (Nat.le_of_ble_eq_true rfl) ?_
  intro p e s m args below meth c ls C hnam hsz hP hl
  have hS : va_S (zA G) s.heap s.heap [] := va_S.rf
  have hl : lv_has ls 1 [(0, .ref (G.2.1 + 27))] := hl
  refine lv_aload_n C.1 C.2.1 dd_X0_init_0 rfl (lv_at hl 0 rfl) ?_
  refine en_obj C no_RX0_3 no_i no_c (hl.1.trans C.2.2.2.1.symm) (Nat.le_of_ble_eq_true rfl) (Nat.le_of_ble_eq_true rfl) (Nat.le_of_ble_eq_true rfl) dd_X0_init_1 ?_
  refine lv_aload_n C.1 C.2.1 dd_X0_init_4 rfl (lv_at hl 0 rfl) ?_
  refine lv_bipush (v := 7) C.1 C.2.1 dd_X0_init_5 (by decide) ?_
  refine en_newa (sh := 20) (N := 7) (ty := .int) (atype := .int) C hsz hP hS hM rfl na_int (by decide +kernel) (by decide +kernel) (by decide) rfl ⟨0, rfl⟩ (fun h => h) (fun _ => rfl) (by decide) (by decide) (Nat.le_of_ble_eq_true rfl) (Nat.le_of_ble_eq_true rfl) (Nat.le_of_ble_eq_true rfl) dd_X0_init_7 (fun H hsz hP hS => ?_)
  have hM : zfrM 29 (M) := zfrM_le hM (by decide)
  have hF : zfrF 29 (F) := zfrF_le hF (by decide)
  refine en_putR (o := 27) (q := 28) C hnam hsz hP hS gf_RX0_11 (fun q h => by cases h; exact ⟨rfl, rfl⟩) (by decide) (by decide +kernel) (by decide +kernel) rfl rfl dd_X0_init_9 (fun H locs hsz hP hS => ?_)
  have hF : zfrF 29 (rup (F) 27 0 28) := zfrF_up hF (by decide)
  refine lv_aload_n C.1 C.2.1 dd_X0_init_12 rfl (lv_at hl 0 rfl) ?_
  refine lv_sipush (v := 700) C.1 C.2.1 dd_X0_init_13 (by decide) ?_
  refine en_newa (sh := 20) (N := 700) (ty := .int) (atype := .int) C hsz hP hS hM rfl na_int (by decide +kernel) (by decide +kernel) (by decide) rfl ⟨0, rfl⟩ (fun h => h) (fun _ => rfl) (by decide) (by decide) (Nat.le_of_ble_eq_true rfl) (Nat.le_of_ble_eq_true rfl) (Nat.le_of_ble_eq_true rfl) dd_X0_init_16 (fun H hsz hP hS => ?_)
  have hM : zfrM 30 (M) := zfrM_le hM (by decide)
  have hF : zfrF 30 (rup (F) 27 0 28) := zfrF_le hF (by decide)
  refine en_putR (o := 27) (q := 29) C hnam hsz hP hS gf_RX0_15 (fun q h => by cases h; exact ⟨rfl, rfl⟩) (by decide) (by decide +kernel) (by decide +kernel) rfl rfl dd_X0_init_18 (fun H locs hsz hP hS => ?_)
  have hF : zfrF 30 (rup (rup (F) 27 0 28) 27 1 29) := zfrF_up hF (by decide)
  refine lv_aload_n C.1 C.2.1 dd_X0_init_21 rfl (lv_at hl 0 rfl) ?_
  refine lv_bipush (v := 40) C.1 C.2.1 dd_X0_init_22 (by decide) ?_
  refine en_newa (sh := 20) (N := 40) (ty := .int) (atype := .int) C hsz hP hS hM rfl na_int (by decide +kernel) (by decide +kernel) (by decide) rfl ⟨0, rfl⟩ (fun h => h) (fun _ => rfl) (by decide) (by decide) (Nat.le_of_ble_eq_true rfl) (Nat.le_of_ble_eq_true rfl) (Nat.le_of_ble_eq_true rfl) dd_X0_init_24 (fun H hsz hP hS => ?_)
  have hM : zfrM 31 (M) := zfrM_le hM (by decide)
  have hF : zfrF 31 (rup (rup (F) 27 0 28) 27 1 29) := zfrF_le hF (by decide)
  refine en_putR (o := 27) (q := 30) C hnam hsz hP hS gf_RX0_18 (fun q h => by cases h; exact ⟨rfl, rfl⟩) (by decide) (by decide +kernel) (by decide +kernel) rfl rfl dd_X0_init_26 (fun H locs hsz hP hS => ?_)
  have hF : zfrF 31 (rup (rup (rup (F) 27 0 28) 27 1 29) 27 2 30) := zfrF_up hF (by decide)
  refine lv_aload_n C.1 C.2.1 dd_X0_init_29 rfl (lv_at hl 0 rfl) ?_
  refine lv_iconst (v := 0) C.1 C.2.1 dd_X0_init_30 (by decide) ?_
  refine en_putI (o := 27) (v := 0) C hsz hP hS gw_RX0_21 (by decide) (by decide +kernel) (by decide +kernel) (by decide) (by decide) dd_X0_init_31 (fun H locs hsz hP hS => ?_)
  have hM : zfrM 31 (zup (M) 27 3 0) := zfrM_up hM (by decide)
  refine lv_aload_n C.1 C.2.1 dd_X0_init_34 rfl (lv_at hl 0 rfl) ?_
  refine lv_iconst (v := 0) C.1 C.2.1 dd_X0_init_35 (by decide) ?_
  refine en_putI (o := 27) (v := 0) C hsz hP hS gw_RX0_25 (by decide) (by decide +kernel) (by decide +kernel) (by decide) (by decide) dd_X0_init_36 (fun H locs hsz hP hS => ?_)
  have hM : zfrM 31 (zup (zup (M) 27 3 0) 27 4 0) := zfrM_up hM (by decide)
  exact en_ret C rfl dd_X0_init_39 hsz hP hS rfl rfl rfl
def MX_X6_init_21 (M : zM) : zM := MX_X0_init_27 (MX_X9_init_22 (zup (zup (zup (zup (M) 21 0 0) 21 1 0) 21 2 3) 21 3 0))
def FX_X6_init_21 (F : zF2) : zF2 := rup (rup (rup (rup (rup (rup (rup (rup (rup (FX_X0_init_27 (rup (FX_X9_init_22 (F)) 21 4 22)) 21 5 27) 21 6 31) 21 7 32) 21 8 33) 21 9 34) 21 10 35) 21 11 36) 21 12 37) 21 13 38
theorem frM_X6_init_21 {M : zM} (h : zfrM 22 M) : zfrM 39 (MX_X6_init_21 M) := (zfrM_le (k' := 39) (frM_X0_init_27 (zfrM_le (k' := 28) (frM_X9_init_22 (zfrM_up (zfrM_up (zfrM_up (zfrM_up (zfrM_le h (by decide) : zfrM 23 M) (by decide)) (by decide)) (by decide)) (by decide))) (by decide))) (by decide))
theorem frF_X6_init_21 {F : zF2} (h : zfrF 22 F) : zfrF 39 (FX_X6_init_21 F) := (zfrF_up (zfrF_up (zfrF_up (zfrF_up (zfrF_up (zfrF_up (zfrF_up (zfrF_up (zfrF_up (zfrF_le (k' := 39) (frF_X0_init_27 (zfrF_up (zfrF_le (k' := 28) (frF_X9_init_22 (zfrF_le h (by decide) : zfrF 23 F)) (by decide)) (by decide))) (by decide)) (by decide)) (by decide)) (by decide)) (by decide)) (by decide)) (by decide)) (by decide)) (by decide)) (by decide))
set_option maxHeartbeats 2000000 in
set_option maxRecDepth 50000 in
theorem cn_X6_init_21 (l : Launch) (G : zG) (M : zM) (F : zF2) (hM : zfrM 22 M) (hF : zfrF 22 F) : zMn l G Y_X6_init 2 17 980 [.ref (G.2.1 + 21)] 22 M F 39 (MX_X6_init_21 M) (FX_X6_init_21 F) := by
  refine zMn_of (by decide +kernel) rfl (Nat.le_of_ble_eq_true rfl) ?_
  intro p e s m args below meth c ls C hnam hsz hP hl
  have hS : va_S (zA G) s.heap s.heap [] := va_S.rf
  have hl : lv_has ls 1 [(0, .ref (G.2.1 + 21))] := hl
  refine lv_aload_n C.1 C.2.1 dd_X6_init_0 rfl (lv_at hl 0 rfl) ?_
  refine en_obj C no_RX6_3 no_i no_c (hl.1.trans C.2.2.2.1.symm) (Nat.le_of_ble_eq_true rfl) (Nat.le_of_ble_eq_true rfl) (Nat.le_of_ble_eq_true rfl) dd_X6_init_1 ?_
  refine lv_aload_n C.1 C.2.1 dd_X6_init_4 rfl (lv_at hl 0 rfl) ?_
  refine lv_iconst (v := 0) C.1 C.2.1 dd_X6_init_5 (by decide) ?_
  refine en_putI (o := 21) (v := 0) C hsz hP hS gw_RX6_9 (by decide) (by decide +kernel) (by decide +kernel) (by decide) (by decide) dd_X6_init_6 (fun H locs hsz hP hS => ?_)
  have hM : zfrM 22 (zup (M) 21 0 0) := zfrM_up hM (by decide)
  refine lv_aload_n C.1 C.2.1 dd_X6_init_9 rfl (lv_at hl 0 rfl) ?_
  refine lv_iconst (v := 0) C.1 C.2.1 dd_X6_init_10 (by decide) ?_
  refine en_putI (o := 21) (v := 0) C hsz hP hS gw_RX6_15 (by decide) (by decide +kernel) (by decide +kernel) (by decide) (by decide) dd_X6_init_11 (fun H locs hsz hP hS => ?_)
  have hM : zfrM 22 (zup (zup (M) 21 0 0) 21 1 0) := zfrM_up hM (by decide)
  refine lv_aload_n C.1 C.2.1 dd_X6_init_14 rfl (lv_at hl 0 rfl) ?_
  refine lv_iconst (v := 3) C.1 C.2.1 dd_X6_init_15 (by decide) ?_
  refine en_putI (o := 21) (v := 3) C hsz hP hS gw_RX6_18 (by decide) (by decide +kernel) (by decide +kernel) (by decide) (by decide) dd_X6_init_16 (fun H locs hsz hP hS => ?_)
  have hM : zfrM 22 (zup (zup (zup (M) 21 0 0) 21 1 0) 21 2 3) := zfrM_up hM (by decide)
  refine lv_aload_n C.1 C.2.1 dd_X6_init_19 rfl (lv_at hl 0 rfl) ?_
  refine lv_iconst (v := 0) C.1 C.2.1 dd_X6_init_20 (by decide) ?_
  refine en_putI (o := 21) (v := 0) C hsz hP hS gw_RX6_21 (by decide) (by decide +kernel) (by decide +kernel) (by decide) (by decide) dd_X6_init_21 (fun H locs hsz hP hS => ?_)
  have hM : zfrM 22 (zup (zup (zup (zup (M) 21 0 0) 21 1 0) 21 2 3) 21 3 0) := zfrM_up hM (by decide)
  refine lv_aload_n C.1 C.2.1 dd_X6_init_24 rfl (lv_at hl 0 rfl) ?_
  refine en_new (ci := 9) tyX9 C hsz hP hS hM hF rfl inX_9 tyX9_ok nl_RX6_25 ni_RX9 nn_RX9 (by decide +kernel) (by decide) (by decide +kernel) (df_9 _) (Nat.le_of_ble_eq_true rfl) (Nat.le_of_ble_eq_true rfl) dd_X6_init_25 (fun H hsz hP hS => ?_)
  have hM : zfrM 23 (zup (zup (zup (zup (M) 21 0 0) 21 1 0) 21 2 3) 21 3 0) := zfrM_le hM (by decide)
  have hF : zfrF 23 (F) := zfrF_le hF (by decide)
  refine lv_dup C.1 C.2.1 dd_X6_init_28 rfl ?_
  refine en_callN (As := []) (n := 0) C hsz hP hS hl.1 (cn_X9_init_22 l G (zup (zup (zup (zup (M) 21 0 0) 21 1 0) 21 2 3) 21 3 0) (F) hM hF) nm_X9_init rfl rfl (by decide +kernel) nx_X9_init (by decide +kernel) ⟨(Nat.le_of_ble_eq_true rfl), (Nat.le_of_ble_eq_true rfl)⟩ ⟨(Nat.le_of_ble_eq_true rfl), (Nat.le_of_ble_eq_true rfl)⟩ (Nat.le_of_ble_eq_true rfl) rfl dd_X6_init_29 rfl (fun H locs hsz hP hS => ?_)
  have hM : zfrM 27 (MX_X9_init_22 (zup (zup (zup (zup (M) 21 0 0) 21 1 0) 21 2 3) 21 3 0)) := frM_X9_init_22 hM
  have hF : zfrF 27 (FX_X9_init_22 (F)) := frF_X9_init_22 hF
  refine en_putR (o := 21) (q := 22) C hnam hsz hP hS gf_RX6_28 (fun q h => by cases h; exact ⟨rfl, rfl⟩) (by decide) (by decide +kernel) (by decide +kernel) rfl rfl dd_X6_init_32 (fun H locs hsz hP hS => ?_)
  have hF : zfrF 27 (rup (FX_X9_init_22 (F)) 21 4 22) := zfrF_up hF (by decide)
  refine lv_aload_n C.1 C.2.1 dd_X6_init_35 rfl (lv_at hl 0 rfl) ?_
  refine en_new (ci := 0) tyX0 C hsz hP hS hM hF rfl inX_0 tyX0_ok nl_RX6_32 ni_RX0 nn_RX0 (by decide +kernel) (by decide) (by decide +kernel) (df_0 _) (Nat.le_of_ble_eq_true rfl) (Nat.le_of_ble_eq_true rfl) dd_X6_init_36 (fun H hsz hP hS => ?_)
  have hM : zfrM 28 (MX_X9_init_22 (zup (zup (zup (zup (M) 21 0 0) 21 1 0) 21 2 3) 21 3 0)) := zfrM_le hM (by decide)
  have hF : zfrF 28 (rup (FX_X9_init_22 (F)) 21 4 22) := zfrF_le hF (by decide)
  refine lv_dup C.1 C.2.1 dd_X6_init_39 rfl ?_
  refine en_callN (As := []) (n := 0) C hsz hP hS hl.1 (cn_X0_init_27 l G (MX_X9_init_22 (zup (zup (zup (zup (M) 21 0 0) 21 1 0) 21 2 3) 21 3 0)) (rup (FX_X9_init_22 (F)) 21 4 22) hM hF) nm_X0_init rfl rfl (by decide +kernel) nx_X0_init (by decide +kernel) ⟨(Nat.le_of_ble_eq_true rfl), (Nat.le_of_ble_eq_true rfl)⟩ ⟨(Nat.le_of_ble_eq_true rfl), (Nat.le_of_ble_eq_true rfl)⟩ (Nat.le_of_ble_eq_true rfl) rfl dd_X6_init_40 rfl (fun H locs hsz hP hS => ?_)
  have hM : zfrM 31 (MX_X0_init_27 (MX_X9_init_22 (zup (zup (zup (zup (M) 21 0 0) 21 1 0) 21 2 3) 21 3 0))) := frM_X0_init_27 hM
  have hF : zfrF 31 (FX_X0_init_27 (rup (FX_X9_init_22 (F)) 21 4 22)) := frF_X0_init_27 hF
  refine en_putR (o := 21) (q := 27) C hnam hsz hP hS gf_RX6_35 (fun q h => by cases h; exact ⟨rfl, rfl⟩) (by decide) (by decide +kernel) (by decide +kernel) rfl rfl dd_X6_init_43 (fun H locs hsz hP hS => ?_)
  have hF : zfrF 31 (rup (FX_X0_init_27 (rup (FX_X9_init_22 (F)) 21 4 22)) 21 5 27) := zfrF_up hF (by decide)
  refine lv_aload_n C.1 C.2.1 dd_X6_init_46 rfl (lv_at hl 0 rfl) ?_
  refine lv_bipush (v := 8) C.1 C.2.1 dd_X6_init_47 (by decide) ?_
  refine en_newa (sh := 20) (N := 8) (ty := .int) (atype := .int) C hsz hP hS hM rfl na_int (by decide +kernel) (by decide +kernel) (by decide) rfl ⟨0, rfl⟩ (fun h => h) (fun _ => rfl) (by decide) (by decide) (Nat.le_of_ble_eq_true rfl) (Nat.le_of_ble_eq_true rfl) (Nat.le_of_ble_eq_true rfl) dd_X6_init_49 (fun H hsz hP hS => ?_)
  have hM : zfrM 32 (MX_X0_init_27 (MX_X9_init_22 (zup (zup (zup (zup (M) 21 0 0) 21 1 0) 21 2 3) 21 3 0))) := zfrM_le hM (by decide)
  have hF : zfrF 32 (rup (FX_X0_init_27 (rup (FX_X9_init_22 (F)) 21 4 22)) 21 5 27) := zfrF_le hF (by decide)
  refine en_putR (o := 21) (q := 31) C hnam hsz hP hS gf_RX6_39 (fun q h => by cases h; exact ⟨rfl, rfl⟩) (by decide) (by decide +kernel) (by decide +kernel) rfl rfl dd_X6_init_51 (fun H locs hsz hP hS => ?_)
  have hF : zfrF 32 (rup (rup (FX_X0_init_27 (rup (FX_X9_init_22 (F)) 21 4 22)) 21 5 27) 21 6 31) := zfrF_up hF (by decide)
  refine lv_aload_n C.1 C.2.1 dd_X6_init_54 rfl (lv_at hl 0 rfl) ?_
  refine lv_bipush (v := 8) C.1 C.2.1 dd_X6_init_55 (by decide) ?_
  refine en_newa (sh := 20) (N := 8) (ty := .int) (atype := .int) C hsz hP hS hM rfl na_int (by decide +kernel) (by decide +kernel) (by decide) rfl ⟨0, rfl⟩ (fun h => h) (fun _ => rfl) (by decide) (by decide) (Nat.le_of_ble_eq_true rfl) (Nat.le_of_ble_eq_true rfl) (Nat.le_of_ble_eq_true rfl) dd_X6_init_57 (fun H hsz hP hS => ?_)
  have hM : zfrM 33 (MX_X0_init_27 (MX_X9_init_22 (zup (zup (zup (zup (M) 21 0 0) 21 1 0) 21 2 3) 21 3 0))) := zfrM_le hM (by decide)
  have hF : zfrF 33 (rup (rup (FX_X0_init_27 (rup (FX_X9_init_22 (F)) 21 4 22)) 21 5 27) 21 6 31) := zfrF_le hF (by decide)
  refine en_putR (o := 21) (q := 32) C hnam hsz hP hS gf_RX6_43 (fun q h => by cases h; exact ⟨rfl, rfl⟩) (by decide) (by decide +kernel) (by decide +kernel) rfl rfl dd_X6_init_59 (fun H locs hsz hP hS => ?_)
  have hF : zfrF 33 (rup (rup (rup (FX_X0_init_27 (rup (FX_X9_init_22 (F)) 21 4 22)) 21 5 27) 21 6 31) 21 7 32) := zfrF_up hF (by decide)
  refine lv_aload_n C.1 C.2.1 dd_X6_init_62 rfl (lv_at hl 0 rfl) ?_
  refine lv_bipush (v := 8) C.1 C.2.1 dd_X6_init_63 (by decide) ?_
  refine en_newa (sh := 20) (N := 8) (ty := .int) (atype := .int) C hsz hP hS hM rfl na_int (by decide +kernel) (by decide +kernel) (by decide) rfl ⟨0, rfl⟩ (fun h => h) (fun _ => rfl) (by decide) (by decide) (Nat.le_of_ble_eq_true rfl) (Nat.le_of_ble_eq_true rfl) (Nat.le_of_ble_eq_true rfl) dd_X6_init_65 (fun H hsz hP hS => ?_)
  have hM : zfrM 34 (MX_X0_init_27 (MX_X9_init_22 (zup (zup (zup (zup (M) 21 0 0) 21 1 0) 21 2 3) 21 3 0))) := zfrM_le hM (by decide)
  have hF : zfrF 34 (rup (rup (rup (FX_X0_init_27 (rup (FX_X9_init_22 (F)) 21 4 22)) 21 5 27) 21 6 31) 21 7 32) := zfrF_le hF (by decide)
  refine en_putR (o := 21) (q := 33) C hnam hsz hP hS gf_RX6_46 (fun q h => by cases h; exact ⟨rfl, rfl⟩) (by decide) (by decide +kernel) (by decide +kernel) rfl rfl dd_X6_init_67 (fun H locs hsz hP hS => ?_)
  have hF : zfrF 34 (rup (rup (rup (rup (FX_X0_init_27 (rup (FX_X9_init_22 (F)) 21 4 22)) 21 5 27) 21 6 31) 21 7 32) 21 8 33) := zfrF_up hF (by decide)
  refine lv_aload_n C.1 C.2.1 dd_X6_init_70 rfl (lv_at hl 0 rfl) ?_
  refine lv_bipush (v := 8) C.1 C.2.1 dd_X6_init_71 (by decide) ?_
  refine en_newa (sh := 20) (N := 8) (ty := .int) (atype := .int) C hsz hP hS hM rfl na_int (by decide +kernel) (by decide +kernel) (by decide) rfl ⟨0, rfl⟩ (fun h => h) (fun _ => rfl) (by decide) (by decide) (Nat.le_of_ble_eq_true rfl) (Nat.le_of_ble_eq_true rfl) (Nat.le_of_ble_eq_true rfl) dd_X6_init_73 (fun H hsz hP hS => ?_)
  have hM : zfrM 35 (MX_X0_init_27 (MX_X9_init_22 (zup (zup (zup (zup (M) 21 0 0) 21 1 0) 21 2 3) 21 3 0))) := zfrM_le hM (by decide)
  have hF : zfrF 35 (rup (rup (rup (rup (FX_X0_init_27 (rup (FX_X9_init_22 (F)) 21 4 22)) 21 5 27) 21 6 31) 21 7 32) 21 8 33) := zfrF_le hF (by decide)
  refine en_putR (o := 21) (q := 34) C hnam hsz hP hS gf_RX6_49 (fun q h => by cases h; exact ⟨rfl, rfl⟩) (by decide) (by decide +kernel) (by decide +kernel) rfl rfl dd_X6_init_75 (fun H locs hsz hP hS => ?_)
  have hF : zfrF 35 (rup (rup (rup (rup (rup (FX_X0_init_27 (rup (FX_X9_init_22 (F)) 21 4 22)) 21 5 27) 21 6 31) 21 7 32) 21 8 33) 21 9 34) := zfrF_up hF (by decide)
  refine lv_aload_n C.1 C.2.1 dd_X6_init_78 rfl (lv_at hl 0 rfl) ?_
  refine lv_bipush (v := 64) C.1 C.2.1 dd_X6_init_79 (by decide) ?_
  refine en_newa (sh := 20) (N := 64) (ty := .int) (atype := .int) C hsz hP hS hM rfl na_int (by decide +kernel) (by decide +kernel) (by decide) rfl ⟨0, rfl⟩ (fun h => h) (fun _ => rfl) (by decide) (by decide) (Nat.le_of_ble_eq_true rfl) (Nat.le_of_ble_eq_true rfl) (Nat.le_of_ble_eq_true rfl) dd_X6_init_81 (fun H hsz hP hS => ?_)
  have hM : zfrM 36 (MX_X0_init_27 (MX_X9_init_22 (zup (zup (zup (zup (M) 21 0 0) 21 1 0) 21 2 3) 21 3 0))) := zfrM_le hM (by decide)
  have hF : zfrF 36 (rup (rup (rup (rup (rup (FX_X0_init_27 (rup (FX_X9_init_22 (F)) 21 4 22)) 21 5 27) 21 6 31) 21 7 32) 21 8 33) 21 9 34) := zfrF_le hF (by decide)
  refine en_putR (o := 21) (q := 35) C hnam hsz hP hS gf_RX6_52 (fun q h => by cases h; exact ⟨rfl, rfl⟩) (by decide) (by decide +kernel) (by decide +kernel) rfl rfl dd_X6_init_83 (fun H locs hsz hP hS => ?_)
  have hF : zfrF 36 (rup (rup (rup (rup (rup (rup (FX_X0_init_27 (rup (FX_X9_init_22 (F)) 21 4 22)) 21 5 27) 21 6 31) 21 7 32) 21 8 33) 21 9 34) 21 10 35) := zfrF_up hF (by decide)
  refine lv_aload_n C.1 C.2.1 dd_X6_init_86 rfl (lv_at hl 0 rfl) ?_
  refine lv_bipush (v := 12) C.1 C.2.1 dd_X6_init_87 (by decide) ?_
  refine en_newa (sh := 20) (N := 12) (ty := .int) (atype := .int) C hsz hP hS hM rfl na_int (by decide +kernel) (by decide +kernel) (by decide) rfl ⟨0, rfl⟩ (fun h => h) (fun _ => rfl) (by decide) (by decide) (Nat.le_of_ble_eq_true rfl) (Nat.le_of_ble_eq_true rfl) (Nat.le_of_ble_eq_true rfl) dd_X6_init_89 (fun H hsz hP hS => ?_)
  have hM : zfrM 37 (MX_X0_init_27 (MX_X9_init_22 (zup (zup (zup (zup (M) 21 0 0) 21 1 0) 21 2 3) 21 3 0))) := zfrM_le hM (by decide)
  have hF : zfrF 37 (rup (rup (rup (rup (rup (rup (FX_X0_init_27 (rup (FX_X9_init_22 (F)) 21 4 22)) 21 5 27) 21 6 31) 21 7 32) 21 8 33) 21 9 34) 21 10 35) := zfrF_le hF (by decide)
  refine en_putR (o := 21) (q := 36) C hnam hsz hP hS gf_RX6_55 (fun q h => by cases h; exact ⟨rfl, rfl⟩) (by decide) (by decide +kernel) (by decide +kernel) rfl rfl dd_X6_init_91 (fun H locs hsz hP hS => ?_)
  have hF : zfrF 37 (rup (rup (rup (rup (rup (rup (rup (FX_X0_init_27 (rup (FX_X9_init_22 (F)) 21 4 22)) 21 5 27) 21 6 31) 21 7 32) 21 8 33) 21 9 34) 21 10 35) 21 11 36) := zfrF_up hF (by decide)
  refine lv_aload_n C.1 C.2.1 dd_X6_init_94 rfl (lv_at hl 0 rfl) ?_
  refine lv_bipush (v := 12) C.1 C.2.1 dd_X6_init_95 (by decide) ?_
  refine en_newa (sh := 20) (N := 12) (ty := .int) (atype := .int) C hsz hP hS hM rfl na_int (by decide +kernel) (by decide +kernel) (by decide) rfl ⟨0, rfl⟩ (fun h => h) (fun _ => rfl) (by decide) (by decide) (Nat.le_of_ble_eq_true rfl) (Nat.le_of_ble_eq_true rfl) (Nat.le_of_ble_eq_true rfl) dd_X6_init_97 (fun H hsz hP hS => ?_)
  have hM : zfrM 38 (MX_X0_init_27 (MX_X9_init_22 (zup (zup (zup (zup (M) 21 0 0) 21 1 0) 21 2 3) 21 3 0))) := zfrM_le hM (by decide)
  have hF : zfrF 38 (rup (rup (rup (rup (rup (rup (rup (FX_X0_init_27 (rup (FX_X9_init_22 (F)) 21 4 22)) 21 5 27) 21 6 31) 21 7 32) 21 8 33) 21 9 34) 21 10 35) 21 11 36) := zfrF_le hF (by decide)
  refine en_putR (o := 21) (q := 37) C hnam hsz hP hS gf_RX6_58 (fun q h => by cases h; exact ⟨rfl, rfl⟩) (by decide) (by decide +kernel) (by decide +kernel) rfl rfl dd_X6_init_99 (fun H locs hsz hP hS => ?_)
  have hF : zfrF 38 (rup (rup (rup (rup (rup (rup (rup (rup (FX_X0_init_27 (rup (FX_X9_init_22 (F)) 21 4 22)) 21 5 27) 21 6 31) 21 7 32) 21 8 33) 21 9 34) 21 10 35) 21 11 36) 21 12 37) := zfrF_up hF (by decide)
  refine lv_aload_n C.1 C.2.1 dd_X6_init_102 rfl (lv_at hl 0 rfl) ?_
  refine lv_bipush (v := 12) C.1 C.2.1 dd_X6_init_103 (by decide) ?_
  refine en_newa (sh := 20) (N := 12) (ty := .int) (atype := .int) C hsz hP hS hM rfl na_int (by decide +kernel) (by decide +kernel) (by decide) rfl ⟨0, rfl⟩ (fun h => h) (fun _ => rfl) (by decide) (by decide) (Nat.le_of_ble_eq_true rfl) (Nat.le_of_ble_eq_true rfl) (Nat.le_of_ble_eq_true rfl) dd_X6_init_105 (fun H hsz hP hS => ?_)
  have hM : zfrM 39 (MX_X0_init_27 (MX_X9_init_22 (zup (zup (zup (zup (M) 21 0 0) 21 1 0) 21 2 3) 21 3 0))) := zfrM_le hM (by decide)
  have hF : zfrF 39 (rup (rup (rup (rup (rup (rup (rup (rup (FX_X0_init_27 (rup (FX_X9_init_22 (F)) 21 4 22)) 21 5 27) 21 6 31) 21 7 32) 21 8 33) 21 9 34) 21 10 35) 21 11 36) 21 12 37) := zfrF_le hF (by decide)
  refine en_putR (o := 21) (q := 38) C hnam hsz hP hS gf_RX6_61 (fun q h => by cases h; exact ⟨rfl, rfl⟩) (by decide) (by decide +kernel) (by decide +kernel) rfl rfl dd_X6_init_107 (fun H locs hsz hP hS => ?_)
  have hF : zfrF 39 (rup (rup (rup (rup (rup (rup (rup (rup (rup (FX_X0_init_27 (rup (FX_X9_init_22 (F)) 21 4 22)) 21 5 27) 21 6 31) 21 7 32) 21 8 33) 21 9 34) 21 10 35) 21 11 36) 21 12 37) 21 13 38) := zfrF_up hF (by decide)
  exact en_ret C rfl dd_X6_init_110 hsz hP hS rfl rfl rfl
def MX_X7_init_39 (M : zM) : zM := M
def FX_X7_init_39 (F : zF2) : zF2 := rup (rup (F) 39 0 1) 39 1 21
theorem frM_X7_init_39 {M : zM} (h : zfrM 40 M) : zfrM 40 (MX_X7_init_39 M) := (zfrM_le h (by decide) : zfrM 40 M)
theorem frF_X7_init_39 {F : zF2} (h : zfrF 40 F) : zfrF 40 (FX_X7_init_39 F) := (zfrF_up (zfrF_up (zfrF_le h (by decide) : zfrF 40 F) (by decide)) (by decide))
set_option maxHeartbeats 2000000 in
set_option maxRecDepth 50000 in
theorem cn_X7_init_39 (l : Launch) (G : zG) (M : zM) (F : zF2) (hM : zfrM 40 M) (hF : zfrF 40 F) : zMn l G Y_X7_init 1 0 0 [.ref (G.2.1 + 39), .ref (G.2.1 + 1), .ref (G.2.1 + 21)] 40 M F 40 (MX_X7_init_39 M) (FX_X7_init_39 F) := by
  refine zMn_of (by decide +kernel) rfl (Nat.le_of_ble_eq_true rfl) ?_
  intro p e s m args below meth c ls C hnam hsz hP hl
  have hS : va_S (zA G) s.heap s.heap [] := va_S.rf
  have hl : lv_has ls 3 [(0, .ref (G.2.1 + 39)), (1, .ref (G.2.1 + 1)), (2, .ref (G.2.1 + 21))] := hl
  refine lv_aload_n C.1 C.2.1 dd_X7_init_0 rfl (lv_at hl 0 rfl) ?_
  refine en_obj C no_RX7_3 no_i no_c (hl.1.trans C.2.2.2.1.symm) (Nat.le_of_ble_eq_true rfl) (Nat.le_of_ble_eq_true rfl) (Nat.le_of_ble_eq_true rfl) dd_X7_init_1 ?_
  refine lv_aload_n C.1 C.2.1 dd_X7_init_4 rfl (lv_at hl 0 rfl) ?_
  refine lv_aload_n C.1 C.2.1 dd_X7_init_5 rfl (lv_at hl 1 rfl) ?_
  refine en_putR (o := 39) (q := 1) C hnam hsz hP hS gf_RX7_9 (fun q h => by cases h; exact ⟨rfl, rfl⟩) (by decide) (by decide +kernel) (by decide +kernel) rfl rfl dd_X7_init_6 (fun H locs hsz hP hS => ?_)
  have hF : zfrF 40 (rup (F) 39 0 1) := zfrF_up hF (by decide)
  refine lv_aload_n C.1 C.2.1 dd_X7_init_9 rfl (lv_at hl 0 rfl) ?_
  refine lv_aload_n C.1 C.2.1 dd_X7_init_10 rfl (lv_at hl 2 rfl) ?_
  refine en_putR (o := 39) (q := 21) C hnam hsz hP hS gf_RX7_15 (fun q h => by cases h; exact ⟨rfl, rfl⟩) (by decide) (by decide +kernel) (by decide +kernel) rfl rfl dd_X7_init_11 (fun H locs hsz hP hS => ?_)
  have hF : zfrF 40 (rup (rup (F) 39 0 1) 39 1 21) := zfrF_up hF (by decide)
  exact en_ret C rfl dd_X7_init_14 hsz hP hS rfl rfl rfl
def MX_X10_init_40 (M : zM) : zM := zup (M) 40 3 0
def FX_X10_init_40 (F : zF2) : zF2 := rup (rup (rup (F) 40 1 41) 40 2 42) 40 0 3
theorem frM_X10_init_40 {M : zM} (h : zfrM 41 M) : zfrM 43 (MX_X10_init_40 M) := (zfrM_up (zfrM_le h (by decide) : zfrM 43 M) (by decide))
theorem frF_X10_init_40 {F : zF2} (h : zfrF 41 F) : zfrF 43 (FX_X10_init_40 F) := (zfrF_up (zfrF_up (zfrF_up (zfrF_le h (by decide) : zfrF 43 F) (by decide)) (by decide)) (by decide))
set_option maxHeartbeats 2000000 in
set_option maxRecDepth 50000 in
theorem cn_X10_init_40 (l : Launch) (G : zG) (M : zM) (F : zF2) (hM : zfrM 41 M) (hF : zfrF 41 F) : zMn l G Y_X10_init 1 2 72 [.ref (G.2.1 + 40), .ref (G.2.1 + 3)] 41 M F 43 (MX_X10_init_40 M) (FX_X10_init_40 F) := by
  refine zMn_of (by decide +kernel) rfl (Nat.le_of_ble_eq_true rfl) ?_
  intro p e s m args below meth c ls C hnam hsz hP hl
  have hS : va_S (zA G) s.heap s.heap [] := va_S.rf
  have hl : lv_has ls 2 [(0, .ref (G.2.1 + 40)), (1, .ref (G.2.1 + 3))] := hl
  refine lv_aload_n C.1 C.2.1 dd_X10_init_0 rfl (lv_at hl 0 rfl) ?_
  refine en_obj C no_RX10_3 no_i no_c (hl.1.trans C.2.2.2.1.symm) (Nat.le_of_ble_eq_true rfl) (Nat.le_of_ble_eq_true rfl) (Nat.le_of_ble_eq_true rfl) dd_X10_init_1 ?_
  refine lv_aload_n C.1 C.2.1 dd_X10_init_4 rfl (lv_at hl 0 rfl) ?_
  refine lv_bipush (v := 8) C.1 C.2.1 dd_X10_init_5 (by decide) ?_
  refine en_newa (sh := 20) (N := 8) (ty := .int) (atype := .int) C hsz hP hS hM rfl na_int (by decide +kernel) (by decide +kernel) (by decide) rfl ⟨0, rfl⟩ (fun h => h) (fun _ => rfl) (by decide) (by decide) (Nat.le_of_ble_eq_true rfl) (Nat.le_of_ble_eq_true rfl) (Nat.le_of_ble_eq_true rfl) dd_X10_init_7 (fun H hsz hP hS => ?_)
  have hM : zfrM 42 (M) := zfrM_le hM (by decide)
  have hF : zfrF 42 (F) := zfrF_le hF (by decide)
  refine en_putR (o := 40) (q := 41) C hnam hsz hP hS gf_RX10_9 (fun q h => by cases h; exact ⟨rfl, rfl⟩) (by decide) (by decide +kernel) (by decide +kernel) rfl rfl dd_X10_init_9 (fun H locs hsz hP hS => ?_)
  have hF : zfrF 42 (rup (F) 40 1 41) := zfrF_up hF (by decide)
  refine lv_aload_n C.1 C.2.1 dd_X10_init_12 rfl (lv_at hl 0 rfl) ?_
  refine lv_bipush (v := 64) C.1 C.2.1 dd_X10_init_13 (by decide) ?_
  refine en_newa (sh := 20) (N := 64) (ty := .int) (atype := .int) C hsz hP hS hM rfl na_int (by decide +kernel) (by decide +kernel) (by decide) rfl ⟨0, rfl⟩ (fun h => h) (fun _ => rfl) (by decide) (by decide) (Nat.le_of_ble_eq_true rfl) (Nat.le_of_ble_eq_true rfl) (Nat.le_of_ble_eq_true rfl) dd_X10_init_15 (fun H hsz hP hS => ?_)
  have hM : zfrM 43 (M) := zfrM_le hM (by decide)
  have hF : zfrF 43 (rup (F) 40 1 41) := zfrF_le hF (by decide)
  refine en_putR (o := 40) (q := 42) C hnam hsz hP hS gf_RX10_15 (fun q h => by cases h; exact ⟨rfl, rfl⟩) (by decide) (by decide +kernel) (by decide +kernel) rfl rfl dd_X10_init_17 (fun H locs hsz hP hS => ?_)
  have hF : zfrF 43 (rup (rup (F) 40 1 41) 40 2 42) := zfrF_up hF (by decide)
  refine lv_aload_n C.1 C.2.1 dd_X10_init_20 rfl (lv_at hl 0 rfl) ?_
  refine lv_iconst (v := 0) C.1 C.2.1 dd_X10_init_21 (by decide) ?_
  refine en_putI (o := 40) (v := 0) C hsz hP hS gw_RX10_18 (by decide) (by decide +kernel) (by decide +kernel) (by decide) (by decide) dd_X10_init_22 (fun H locs hsz hP hS => ?_)
  have hM : zfrM 43 (zup (M) 40 3 0) := zfrM_up hM (by decide)
  refine lv_aload_n C.1 C.2.1 dd_X10_init_25 rfl (lv_at hl 0 rfl) ?_
  refine lv_aload_n C.1 C.2.1 dd_X10_init_26 rfl (lv_at hl 1 rfl) ?_
  refine en_putR (o := 40) (q := 3) C hnam hsz hP hS gf_RX10_22 (fun q h => by cases h; exact ⟨rfl, rfl⟩) (by decide) (by decide +kernel) (by decide +kernel) rfl rfl dd_X10_init_27 (fun H locs hsz hP hS => ?_)
  have hF : zfrF 43 (rup (rup (rup (F) 40 1 41) 40 2 42) 40 0 3) := zfrF_up hF (by decide)
  exact en_ret C rfl dd_X10_init_30 hsz hP hS rfl rfl rfl
def MX_X10_init_43 (M : zM) : zM := zup (M) 43 3 0
def FX_X10_init_43 (F : zF2) : zF2 := rup (rup (rup (F) 43 1 44) 43 2 45) 43 0 3
theorem frM_X10_init_43 {M : zM} (h : zfrM 44 M) : zfrM 46 (MX_X10_init_43 M) := (zfrM_up (zfrM_le h (by decide) : zfrM 46 M) (by decide))
theorem frF_X10_init_43 {F : zF2} (h : zfrF 44 F) : zfrF 46 (FX_X10_init_43 F) := (zfrF_up (zfrF_up (zfrF_up (zfrF_le h (by decide) : zfrF 46 F) (by decide)) (by decide)) (by decide))
set_option maxHeartbeats 2000000 in
set_option maxRecDepth 50000 in
theorem cn_X10_init_43 (l : Launch) (G : zG) (M : zM) (F : zF2) (hM : zfrM 44 M) (hF : zfrF 44 F) : zMn l G Y_X10_init 1 2 72 [.ref (G.2.1 + 43), .ref (G.2.1 + 3)] 44 M F 46 (MX_X10_init_43 M) (FX_X10_init_43 F) := by
  refine zMn_of (by decide +kernel) rfl (Nat.le_of_ble_eq_true rfl) ?_
  intro p e s m args below meth c ls C hnam hsz hP hl
  have hS : va_S (zA G) s.heap s.heap [] := va_S.rf
  have hl : lv_has ls 2 [(0, .ref (G.2.1 + 43)), (1, .ref (G.2.1 + 3))] := hl
  refine lv_aload_n C.1 C.2.1 dd_X10_init_0 rfl (lv_at hl 0 rfl) ?_
  refine en_obj C no_RX10_3 no_i no_c (hl.1.trans C.2.2.2.1.symm) (Nat.le_of_ble_eq_true rfl) (Nat.le_of_ble_eq_true rfl) (Nat.le_of_ble_eq_true rfl) dd_X10_init_1 ?_
  refine lv_aload_n C.1 C.2.1 dd_X10_init_4 rfl (lv_at hl 0 rfl) ?_
  refine lv_bipush (v := 8) C.1 C.2.1 dd_X10_init_5 (by decide) ?_
  refine en_newa (sh := 20) (N := 8) (ty := .int) (atype := .int) C hsz hP hS hM rfl na_int (by decide +kernel) (by decide +kernel) (by decide) rfl ⟨0, rfl⟩ (fun h => h) (fun _ => rfl) (by decide) (by decide) (Nat.le_of_ble_eq_true rfl) (Nat.le_of_ble_eq_true rfl) (Nat.le_of_ble_eq_true rfl) dd_X10_init_7 (fun H hsz hP hS => ?_)
  have hM : zfrM 45 (M) := zfrM_le hM (by decide)
  have hF : zfrF 45 (F) := zfrF_le hF (by decide)
  refine en_putR (o := 43) (q := 44) C hnam hsz hP hS gf_RX10_9 (fun q h => by cases h; exact ⟨rfl, rfl⟩) (by decide) (by decide +kernel) (by decide +kernel) rfl rfl dd_X10_init_9 (fun H locs hsz hP hS => ?_)
  have hF : zfrF 45 (rup (F) 43 1 44) := zfrF_up hF (by decide)
  refine lv_aload_n C.1 C.2.1 dd_X10_init_12 rfl (lv_at hl 0 rfl) ?_
  refine lv_bipush (v := 64) C.1 C.2.1 dd_X10_init_13 (by decide) ?_
  refine en_newa (sh := 20) (N := 64) (ty := .int) (atype := .int) C hsz hP hS hM rfl na_int (by decide +kernel) (by decide +kernel) (by decide) rfl ⟨0, rfl⟩ (fun h => h) (fun _ => rfl) (by decide) (by decide) (Nat.le_of_ble_eq_true rfl) (Nat.le_of_ble_eq_true rfl) (Nat.le_of_ble_eq_true rfl) dd_X10_init_15 (fun H hsz hP hS => ?_)
  have hM : zfrM 46 (M) := zfrM_le hM (by decide)
  have hF : zfrF 46 (rup (F) 43 1 44) := zfrF_le hF (by decide)
  refine en_putR (o := 43) (q := 45) C hnam hsz hP hS gf_RX10_15 (fun q h => by cases h; exact ⟨rfl, rfl⟩) (by decide) (by decide +kernel) (by decide +kernel) rfl rfl dd_X10_init_17 (fun H locs hsz hP hS => ?_)
  have hF : zfrF 46 (rup (rup (F) 43 1 44) 43 2 45) := zfrF_up hF (by decide)
  refine lv_aload_n C.1 C.2.1 dd_X10_init_20 rfl (lv_at hl 0 rfl) ?_
  refine lv_iconst (v := 0) C.1 C.2.1 dd_X10_init_21 (by decide) ?_
  refine en_putI (o := 43) (v := 0) C hsz hP hS gw_RX10_18 (by decide) (by decide +kernel) (by decide +kernel) (by decide) (by decide) dd_X10_init_22 (fun H locs hsz hP hS => ?_)
  have hM : zfrM 46 (zup (M) 43 3 0) := zfrM_up hM (by decide)
  refine lv_aload_n C.1 C.2.1 dd_X10_init_25 rfl (lv_at hl 0 rfl) ?_
  refine lv_aload_n C.1 C.2.1 dd_X10_init_26 rfl (lv_at hl 1 rfl) ?_
  refine en_putR (o := 43) (q := 3) C hnam hsz hP hS gf_RX10_22 (fun q h => by cases h; exact ⟨rfl, rfl⟩) (by decide) (by decide +kernel) (by decide +kernel) rfl rfl dd_X10_init_27 (fun H locs hsz hP hS => ?_)
  have hF : zfrF 46 (rup (rup (rup (F) 43 1 44) 43 2 45) 43 0 3) := zfrF_up hF (by decide)
  exact en_ret C rfl dd_X10_init_30 hsz hP hS rfl rfl rfl
def MX_X10_init_46 (M : zM) : zM := zup (M) 46 3 0
def FX_X10_init_46 (F : zF2) : zF2 := rup (rup (rup (F) 46 1 47) 46 2 48) 46 0 3
theorem frM_X10_init_46 {M : zM} (h : zfrM 47 M) : zfrM 49 (MX_X10_init_46 M) := (zfrM_up (zfrM_le h (by decide) : zfrM 49 M) (by decide))
theorem frF_X10_init_46 {F : zF2} (h : zfrF 47 F) : zfrF 49 (FX_X10_init_46 F) := (zfrF_up (zfrF_up (zfrF_up (zfrF_le h (by decide) : zfrF 49 F) (by decide)) (by decide)) (by decide))
set_option maxHeartbeats 2000000 in
set_option maxRecDepth 50000 in
theorem cn_X10_init_46 (l : Launch) (G : zG) (M : zM) (F : zF2) (hM : zfrM 47 M) (hF : zfrF 47 F) : zMn l G Y_X10_init 1 2 72 [.ref (G.2.1 + 46), .ref (G.2.1 + 3)] 47 M F 49 (MX_X10_init_46 M) (FX_X10_init_46 F) := by
  refine zMn_of (by decide +kernel) rfl (Nat.le_of_ble_eq_true rfl) ?_
  intro p e s m args below meth c ls C hnam hsz hP hl
  have hS : va_S (zA G) s.heap s.heap [] := va_S.rf
  have hl : lv_has ls 2 [(0, .ref (G.2.1 + 46)), (1, .ref (G.2.1 + 3))] := hl
  refine lv_aload_n C.1 C.2.1 dd_X10_init_0 rfl (lv_at hl 0 rfl) ?_
  refine en_obj C no_RX10_3 no_i no_c (hl.1.trans C.2.2.2.1.symm) (Nat.le_of_ble_eq_true rfl) (Nat.le_of_ble_eq_true rfl) (Nat.le_of_ble_eq_true rfl) dd_X10_init_1 ?_
  refine lv_aload_n C.1 C.2.1 dd_X10_init_4 rfl (lv_at hl 0 rfl) ?_
  refine lv_bipush (v := 8) C.1 C.2.1 dd_X10_init_5 (by decide) ?_
  refine en_newa (sh := 20) (N := 8) (ty := .int) (atype := .int) C hsz hP hS hM rfl na_int (by decide +kernel) (by decide +kernel) (by decide) rfl ⟨0, rfl⟩ (fun h => h) (fun _ => rfl) (by decide) (by decide) (Nat.le_of_ble_eq_true rfl) (Nat.le_of_ble_eq_true rfl) (Nat.le_of_ble_eq_true rfl) dd_X10_init_7 (fun H hsz hP hS => ?_)
  have hM : zfrM 48 (M) := zfrM_le hM (by decide)
  have hF : zfrF 48 (F) := zfrF_le hF (by decide)
  refine en_putR (o := 46) (q := 47) C hnam hsz hP hS gf_RX10_9 (fun q h => by cases h; exact ⟨rfl, rfl⟩) (by decide) (by decide +kernel) (by decide +kernel) rfl rfl dd_X10_init_9 (fun H locs hsz hP hS => ?_)
  have hF : zfrF 48 (rup (F) 46 1 47) := zfrF_up hF (by decide)
  refine lv_aload_n C.1 C.2.1 dd_X10_init_12 rfl (lv_at hl 0 rfl) ?_
  refine lv_bipush (v := 64) C.1 C.2.1 dd_X10_init_13 (by decide) ?_
  refine en_newa (sh := 20) (N := 64) (ty := .int) (atype := .int) C hsz hP hS hM rfl na_int (by decide +kernel) (by decide +kernel) (by decide) rfl ⟨0, rfl⟩ (fun h => h) (fun _ => rfl) (by decide) (by decide) (Nat.le_of_ble_eq_true rfl) (Nat.le_of_ble_eq_true rfl) (Nat.le_of_ble_eq_true rfl) dd_X10_init_15 (fun H hsz hP hS => ?_)
  have hM : zfrM 49 (M) := zfrM_le hM (by decide)
  have hF : zfrF 49 (rup (F) 46 1 47) := zfrF_le hF (by decide)
  refine en_putR (o := 46) (q := 48) C hnam hsz hP hS gf_RX10_15 (fun q h => by cases h; exact ⟨rfl, rfl⟩) (by decide) (by decide +kernel) (by decide +kernel) rfl rfl dd_X10_init_17 (fun H locs hsz hP hS => ?_)
  have hF : zfrF 49 (rup (rup (F) 46 1 47) 46 2 48) := zfrF_up hF (by decide)
  refine lv_aload_n C.1 C.2.1 dd_X10_init_20 rfl (lv_at hl 0 rfl) ?_
  refine lv_iconst (v := 0) C.1 C.2.1 dd_X10_init_21 (by decide) ?_
  refine en_putI (o := 46) (v := 0) C hsz hP hS gw_RX10_18 (by decide) (by decide +kernel) (by decide +kernel) (by decide) (by decide) dd_X10_init_22 (fun H locs hsz hP hS => ?_)
  have hM : zfrM 49 (zup (M) 46 3 0) := zfrM_up hM (by decide)
  refine lv_aload_n C.1 C.2.1 dd_X10_init_25 rfl (lv_at hl 0 rfl) ?_
  refine lv_aload_n C.1 C.2.1 dd_X10_init_26 rfl (lv_at hl 1 rfl) ?_
  refine en_putR (o := 46) (q := 3) C hnam hsz hP hS gf_RX10_22 (fun q h => by cases h; exact ⟨rfl, rfl⟩) (by decide) (by decide +kernel) (by decide +kernel) rfl rfl dd_X10_init_27 (fun H locs hsz hP hS => ?_)
  have hF : zfrF 49 (rup (rup (rup (F) 46 1 47) 46 2 48) 46 0 3) := zfrF_up hF (by decide)
  exact en_ret C rfl dd_X10_init_30 hsz hP hS rfl rfl rfl
def MX_X3_init_49 (M : zM) : zM := zup (zup (M) 49 0 0) 49 1 0
def FX_X3_init_49 (F : zF2) : zF2 := rup (rup (rup (rup (rup (rup (F) 49 2 50) 49 3 51) 49 4 52) 49 5 53) 49 6 54) 49 7 55
theorem frM_X3_init_49 {M : zM} (h : zfrM 50 M) : zfrM 56 (MX_X3_init_49 M) := (zfrM_up (zfrM_up (zfrM_le h (by decide) : zfrM 56 M) (by decide)) (by decide))
theorem frF_X3_init_49 {F : zF2} (h : zfrF 50 F) : zfrF 56 (FX_X3_init_49 F) := (zfrF_up (zfrF_up (zfrF_up (zfrF_up (zfrF_up (zfrF_up (zfrF_le h (by decide) : zfrF 56 F) (by decide)) (by decide)) (by decide)) (by decide)) (by decide)) (by decide))
set_option maxHeartbeats 2000000 in
set_option maxRecDepth 50000 in
theorem cn_X3_init_49 (l : Launch) (G : zG) (M : zM) (F : zF2) (hM : zfrM 50 M) (hF : zfrF 50 F) : zMn l G Y_X3_init 1 6 176 [.ref (G.2.1 + 49)] 50 M F 56 (MX_X3_init_49 M) (FX_X3_init_49 F) := by
  refine zMn_of (by decide +kernel) rfl (Nat.le_of_ble_eq_true rfl) ?_
  intro p e s m args below meth c ls C hnam hsz hP hl
  have hS : va_S (zA G) s.heap s.heap [] := va_S.rf
  have hl : lv_has ls 1 [(0, .ref (G.2.1 + 49))] := hl
  refine lv_aload_n C.1 C.2.1 dd_X3_init_0 rfl (lv_at hl 0 rfl) ?_
  refine en_obj C no_RX3_3 no_i no_c (hl.1.trans C.2.2.2.1.symm) (Nat.le_of_ble_eq_true rfl) (Nat.le_of_ble_eq_true rfl) (Nat.le_of_ble_eq_true rfl) dd_X3_init_1 ?_
  refine lv_aload_n C.1 C.2.1 dd_X3_init_4 rfl (lv_at hl 0 rfl) ?_
  refine lv_iconst (v := 0) C.1 C.2.1 dd_X3_init_5 (by decide) ?_
  refine en_putI (o := 49) (v := 0) C hsz hP hS gw_RX3_9 (by decide) (by decide +kernel) (by decide +kernel) (by decide) (by decide) dd_X3_init_6 (fun H locs hsz hP hS => ?_)
  have hM : zfrM 50 (zup (M) 49 0 0) := zfrM_up hM (by decide)
  refine lv_aload_n C.1 C.2.1 dd_X3_init_9 rfl (lv_at hl 0 rfl) ?_
  refine lv_iconst (v := 0) C.1 C.2.1 dd_X3_init_10 (by decide) ?_
  refine en_putI (o := 49) (v := 0) C hsz hP hS gw_RX3_15 (by decide) (by decide +kernel) (by decide +kernel) (by decide) (by decide) dd_X3_init_11 (fun H locs hsz hP hS => ?_)
  have hM : zfrM 50 (zup (zup (M) 49 0 0) 49 1 0) := zfrM_up hM (by decide)
  refine lv_aload_n C.1 C.2.1 dd_X3_init_14 rfl (lv_at hl 0 rfl) ?_
  refine lv_bipush (v := 40) C.1 C.2.1 dd_X3_init_15 (by decide) ?_
  refine en_newa (sh := 20) (N := 40) (ty := .int) (atype := .int) C hsz hP hS hM rfl na_int (by decide +kernel) (by decide +kernel) (by decide) rfl ⟨0, rfl⟩ (fun h => h) (fun _ => rfl) (by decide) (by decide) (Nat.le_of_ble_eq_true rfl) (Nat.le_of_ble_eq_true rfl) (Nat.le_of_ble_eq_true rfl) dd_X3_init_17 (fun H hsz hP hS => ?_)
  have hM : zfrM 51 (zup (zup (M) 49 0 0) 49 1 0) := zfrM_le hM (by decide)
  have hF : zfrF 51 (F) := zfrF_le hF (by decide)
  refine en_putR (o := 49) (q := 50) C hnam hsz hP hS gf_RX3_18 (fun q h => by cases h; exact ⟨rfl, rfl⟩) (by decide) (by decide +kernel) (by decide +kernel) rfl rfl dd_X3_init_19 (fun H locs hsz hP hS => ?_)
  have hF : zfrF 51 (rup (F) 49 2 50) := zfrF_up hF (by decide)
  refine lv_aload_n C.1 C.2.1 dd_X3_init_22 rfl (lv_at hl 0 rfl) ?_
  refine lv_bipush (v := 40) C.1 C.2.1 dd_X3_init_23 (by decide) ?_
  refine en_newa (sh := 20) (N := 40) (ty := .int) (atype := .int) C hsz hP hS hM rfl na_int (by decide +kernel) (by decide +kernel) (by decide) rfl ⟨0, rfl⟩ (fun h => h) (fun _ => rfl) (by decide) (by decide) (Nat.le_of_ble_eq_true rfl) (Nat.le_of_ble_eq_true rfl) (Nat.le_of_ble_eq_true rfl) dd_X3_init_25 (fun H hsz hP hS => ?_)
  have hM : zfrM 52 (zup (zup (M) 49 0 0) 49 1 0) := zfrM_le hM (by decide)
  have hF : zfrF 52 (rup (F) 49 2 50) := zfrF_le hF (by decide)
  refine en_putR (o := 49) (q := 51) C hnam hsz hP hS gf_RX3_22 (fun q h => by cases h; exact ⟨rfl, rfl⟩) (by decide) (by decide +kernel) (by decide +kernel) rfl rfl dd_X3_init_27 (fun H locs hsz hP hS => ?_)
  have hF : zfrF 52 (rup (rup (F) 49 2 50) 49 3 51) := zfrF_up hF (by decide)
  refine lv_aload_n C.1 C.2.1 dd_X3_init_30 rfl (lv_at hl 0 rfl) ?_
  refine lv_bipush (v := 40) C.1 C.2.1 dd_X3_init_31 (by decide) ?_
  refine en_newa (sh := 20) (N := 40) (ty := .int) (atype := .int) C hsz hP hS hM rfl na_int (by decide +kernel) (by decide +kernel) (by decide) rfl ⟨0, rfl⟩ (fun h => h) (fun _ => rfl) (by decide) (by decide) (Nat.le_of_ble_eq_true rfl) (Nat.le_of_ble_eq_true rfl) (Nat.le_of_ble_eq_true rfl) dd_X3_init_33 (fun H hsz hP hS => ?_)
  have hM : zfrM 53 (zup (zup (M) 49 0 0) 49 1 0) := zfrM_le hM (by decide)
  have hF : zfrF 53 (rup (rup (F) 49 2 50) 49 3 51) := zfrF_le hF (by decide)
  refine en_putR (o := 49) (q := 52) C hnam hsz hP hS gf_RX3_25 (fun q h => by cases h; exact ⟨rfl, rfl⟩) (by decide) (by decide +kernel) (by decide +kernel) rfl rfl dd_X3_init_35 (fun H locs hsz hP hS => ?_)
  have hF : zfrF 53 (rup (rup (rup (F) 49 2 50) 49 3 51) 49 4 52) := zfrF_up hF (by decide)
  refine lv_aload_n C.1 C.2.1 dd_X3_init_38 rfl (lv_at hl 0 rfl) ?_
  refine lv_bipush (v := 40) C.1 C.2.1 dd_X3_init_39 (by decide) ?_
  refine en_newa (sh := 20) (N := 40) (ty := .int) (atype := .int) C hsz hP hS hM rfl na_int (by decide +kernel) (by decide +kernel) (by decide) rfl ⟨0, rfl⟩ (fun h => h) (fun _ => rfl) (by decide) (by decide) (Nat.le_of_ble_eq_true rfl) (Nat.le_of_ble_eq_true rfl) (Nat.le_of_ble_eq_true rfl) dd_X3_init_41 (fun H hsz hP hS => ?_)
  have hM : zfrM 54 (zup (zup (M) 49 0 0) 49 1 0) := zfrM_le hM (by decide)
  have hF : zfrF 54 (rup (rup (rup (F) 49 2 50) 49 3 51) 49 4 52) := zfrF_le hF (by decide)
  refine en_putR (o := 49) (q := 53) C hnam hsz hP hS gf_RX3_28 (fun q h => by cases h; exact ⟨rfl, rfl⟩) (by decide) (by decide +kernel) (by decide +kernel) rfl rfl dd_X3_init_43 (fun H locs hsz hP hS => ?_)
  have hF : zfrF 54 (rup (rup (rup (rup (F) 49 2 50) 49 3 51) 49 4 52) 49 5 53) := zfrF_up hF (by decide)
  refine lv_aload_n C.1 C.2.1 dd_X3_init_46 rfl (lv_at hl 0 rfl) ?_
  refine lv_bipush (v := 8) C.1 C.2.1 dd_X3_init_47 (by decide) ?_
  refine en_newa (sh := 20) (N := 8) (ty := .int) (atype := .int) C hsz hP hS hM rfl na_int (by decide +kernel) (by decide +kernel) (by decide) rfl ⟨0, rfl⟩ (fun h => h) (fun _ => rfl) (by decide) (by decide) (Nat.le_of_ble_eq_true rfl) (Nat.le_of_ble_eq_true rfl) (Nat.le_of_ble_eq_true rfl) dd_X3_init_49 (fun H hsz hP hS => ?_)
  have hM : zfrM 55 (zup (zup (M) 49 0 0) 49 1 0) := zfrM_le hM (by decide)
  have hF : zfrF 55 (rup (rup (rup (rup (F) 49 2 50) 49 3 51) 49 4 52) 49 5 53) := zfrF_le hF (by decide)
  refine en_putR (o := 49) (q := 54) C hnam hsz hP hS gf_RX3_31 (fun q h => by cases h; exact ⟨rfl, rfl⟩) (by decide) (by decide +kernel) (by decide +kernel) rfl rfl dd_X3_init_51 (fun H locs hsz hP hS => ?_)
  have hF : zfrF 55 (rup (rup (rup (rup (rup (F) 49 2 50) 49 3 51) 49 4 52) 49 5 53) 49 6 54) := zfrF_up hF (by decide)
  refine lv_aload_n C.1 C.2.1 dd_X3_init_54 rfl (lv_at hl 0 rfl) ?_
  refine lv_bipush (v := 8) C.1 C.2.1 dd_X3_init_55 (by decide) ?_
  refine en_newa (sh := 20) (N := 8) (ty := .int) (atype := .int) C hsz hP hS hM rfl na_int (by decide +kernel) (by decide +kernel) (by decide) rfl ⟨0, rfl⟩ (fun h => h) (fun _ => rfl) (by decide) (by decide) (Nat.le_of_ble_eq_true rfl) (Nat.le_of_ble_eq_true rfl) (Nat.le_of_ble_eq_true rfl) dd_X3_init_57 (fun H hsz hP hS => ?_)
  have hM : zfrM 56 (zup (zup (M) 49 0 0) 49 1 0) := zfrM_le hM (by decide)
  have hF : zfrF 56 (rup (rup (rup (rup (rup (F) 49 2 50) 49 3 51) 49 4 52) 49 5 53) 49 6 54) := zfrF_le hF (by decide)
  refine en_putR (o := 49) (q := 55) C hnam hsz hP hS gf_RX3_34 (fun q h => by cases h; exact ⟨rfl, rfl⟩) (by decide) (by decide +kernel) (by decide +kernel) rfl rfl dd_X3_init_59 (fun H locs hsz hP hS => ?_)
  have hF : zfrF 56 (rup (rup (rup (rup (rup (rup (F) 49 2 50) 49 3 51) 49 4 52) 49 5 53) 49 6 54) 49 7 55) := zfrF_up hF (by decide)
  exact en_ret C rfl dd_X3_init_62 hsz hP hS rfl rfl rfl
def MX_X3_init_56 (M : zM) : zM := zup (zup (M) 56 0 0) 56 1 0
def FX_X3_init_56 (F : zF2) : zF2 := rup (rup (rup (rup (rup (rup (F) 56 2 57) 56 3 58) 56 4 59) 56 5 60) 56 6 61) 56 7 62
theorem frM_X3_init_56 {M : zM} (h : zfrM 57 M) : zfrM 63 (MX_X3_init_56 M) := (zfrM_up (zfrM_up (zfrM_le h (by decide) : zfrM 63 M) (by decide)) (by decide))
theorem frF_X3_init_56 {F : zF2} (h : zfrF 57 F) : zfrF 63 (FX_X3_init_56 F) := (zfrF_up (zfrF_up (zfrF_up (zfrF_up (zfrF_up (zfrF_up (zfrF_le h (by decide) : zfrF 63 F) (by decide)) (by decide)) (by decide)) (by decide)) (by decide)) (by decide))
set_option maxHeartbeats 2000000 in
set_option maxRecDepth 50000 in
theorem cn_X3_init_56 (l : Launch) (G : zG) (M : zM) (F : zF2) (hM : zfrM 57 M) (hF : zfrF 57 F) : zMn l G Y_X3_init 1 6 176 [.ref (G.2.1 + 56)] 57 M F 63 (MX_X3_init_56 M) (FX_X3_init_56 F) := by
  refine zMn_of (by decide +kernel) rfl (Nat.le_of_ble_eq_true rfl) ?_
  intro p e s m args below meth c ls C hnam hsz hP hl
  have hS : va_S (zA G) s.heap s.heap [] := va_S.rf
  have hl : lv_has ls 1 [(0, .ref (G.2.1 + 56))] := hl
  refine lv_aload_n C.1 C.2.1 dd_X3_init_0 rfl (lv_at hl 0 rfl) ?_
  refine en_obj C no_RX3_3 no_i no_c (hl.1.trans C.2.2.2.1.symm) (Nat.le_of_ble_eq_true rfl) (Nat.le_of_ble_eq_true rfl) (Nat.le_of_ble_eq_true rfl) dd_X3_init_1 ?_
  refine lv_aload_n C.1 C.2.1 dd_X3_init_4 rfl (lv_at hl 0 rfl) ?_
  refine lv_iconst (v := 0) C.1 C.2.1 dd_X3_init_5 (by decide) ?_
  refine en_putI (o := 56) (v := 0) C hsz hP hS gw_RX3_9 (by decide) (by decide +kernel) (by decide +kernel) (by decide) (by decide) dd_X3_init_6 (fun H locs hsz hP hS => ?_)
  have hM : zfrM 57 (zup (M) 56 0 0) := zfrM_up hM (by decide)
  refine lv_aload_n C.1 C.2.1 dd_X3_init_9 rfl (lv_at hl 0 rfl) ?_
  refine lv_iconst (v := 0) C.1 C.2.1 dd_X3_init_10 (by decide) ?_
  refine en_putI (o := 56) (v := 0) C hsz hP hS gw_RX3_15 (by decide) (by decide +kernel) (by decide +kernel) (by decide) (by decide) dd_X3_init_11 (fun H locs hsz hP hS => ?_)
  have hM : zfrM 57 (zup (zup (M) 56 0 0) 56 1 0) := zfrM_up hM (by decide)
  refine lv_aload_n C.1 C.2.1 dd_X3_init_14 rfl (lv_at hl 0 rfl) ?_
  refine lv_bipush (v := 40) C.1 C.2.1 dd_X3_init_15 (by decide) ?_
  refine en_newa (sh := 20) (N := 40) (ty := .int) (atype := .int) C hsz hP hS hM rfl na_int (by decide +kernel) (by decide +kernel) (by decide) rfl ⟨0, rfl⟩ (fun h => h) (fun _ => rfl) (by decide) (by decide) (Nat.le_of_ble_eq_true rfl) (Nat.le_of_ble_eq_true rfl) (Nat.le_of_ble_eq_true rfl) dd_X3_init_17 (fun H hsz hP hS => ?_)
  have hM : zfrM 58 (zup (zup (M) 56 0 0) 56 1 0) := zfrM_le hM (by decide)
  have hF : zfrF 58 (F) := zfrF_le hF (by decide)
  refine en_putR (o := 56) (q := 57) C hnam hsz hP hS gf_RX3_18 (fun q h => by cases h; exact ⟨rfl, rfl⟩) (by decide) (by decide +kernel) (by decide +kernel) rfl rfl dd_X3_init_19 (fun H locs hsz hP hS => ?_)
  have hF : zfrF 58 (rup (F) 56 2 57) := zfrF_up hF (by decide)
  refine lv_aload_n C.1 C.2.1 dd_X3_init_22 rfl (lv_at hl 0 rfl) ?_
  refine lv_bipush (v := 40) C.1 C.2.1 dd_X3_init_23 (by decide) ?_
  refine en_newa (sh := 20) (N := 40) (ty := .int) (atype := .int) C hsz hP hS hM rfl na_int (by decide +kernel) (by decide +kernel) (by decide) rfl ⟨0, rfl⟩ (fun h => h) (fun _ => rfl) (by decide) (by decide) (Nat.le_of_ble_eq_true rfl) (Nat.le_of_ble_eq_true rfl) (Nat.le_of_ble_eq_true rfl) dd_X3_init_25 (fun H hsz hP hS => ?_)
  have hM : zfrM 59 (zup (zup (M) 56 0 0) 56 1 0) := zfrM_le hM (by decide)
  have hF : zfrF 59 (rup (F) 56 2 57) := zfrF_le hF (by decide)
  refine en_putR (o := 56) (q := 58) C hnam hsz hP hS gf_RX3_22 (fun q h => by cases h; exact ⟨rfl, rfl⟩) (by decide) (by decide +kernel) (by decide +kernel) rfl rfl dd_X3_init_27 (fun H locs hsz hP hS => ?_)
  have hF : zfrF 59 (rup (rup (F) 56 2 57) 56 3 58) := zfrF_up hF (by decide)
  refine lv_aload_n C.1 C.2.1 dd_X3_init_30 rfl (lv_at hl 0 rfl) ?_
  refine lv_bipush (v := 40) C.1 C.2.1 dd_X3_init_31 (by decide) ?_
  refine en_newa (sh := 20) (N := 40) (ty := .int) (atype := .int) C hsz hP hS hM rfl na_int (by decide +kernel) (by decide +kernel) (by decide) rfl ⟨0, rfl⟩ (fun h => h) (fun _ => rfl) (by decide) (by decide) (Nat.le_of_ble_eq_true rfl) (Nat.le_of_ble_eq_true rfl) (Nat.le_of_ble_eq_true rfl) dd_X3_init_33 (fun H hsz hP hS => ?_)
  have hM : zfrM 60 (zup (zup (M) 56 0 0) 56 1 0) := zfrM_le hM (by decide)
  have hF : zfrF 60 (rup (rup (F) 56 2 57) 56 3 58) := zfrF_le hF (by decide)
  refine en_putR (o := 56) (q := 59) C hnam hsz hP hS gf_RX3_25 (fun q h => by cases h; exact ⟨rfl, rfl⟩) (by decide) (by decide +kernel) (by decide +kernel) rfl rfl dd_X3_init_35 (fun H locs hsz hP hS => ?_)
  have hF : zfrF 60 (rup (rup (rup (F) 56 2 57) 56 3 58) 56 4 59) := zfrF_up hF (by decide)
  refine lv_aload_n C.1 C.2.1 dd_X3_init_38 rfl (lv_at hl 0 rfl) ?_
  refine lv_bipush (v := 40) C.1 C.2.1 dd_X3_init_39 (by decide) ?_
  refine en_newa (sh := 20) (N := 40) (ty := .int) (atype := .int) C hsz hP hS hM rfl na_int (by decide +kernel) (by decide +kernel) (by decide) rfl ⟨0, rfl⟩ (fun h => h) (fun _ => rfl) (by decide) (by decide) (Nat.le_of_ble_eq_true rfl) (Nat.le_of_ble_eq_true rfl) (Nat.le_of_ble_eq_true rfl) dd_X3_init_41 (fun H hsz hP hS => ?_)
  have hM : zfrM 61 (zup (zup (M) 56 0 0) 56 1 0) := zfrM_le hM (by decide)
  have hF : zfrF 61 (rup (rup (rup (F) 56 2 57) 56 3 58) 56 4 59) := zfrF_le hF (by decide)
  refine en_putR (o := 56) (q := 60) C hnam hsz hP hS gf_RX3_28 (fun q h => by cases h; exact ⟨rfl, rfl⟩) (by decide) (by decide +kernel) (by decide +kernel) rfl rfl dd_X3_init_43 (fun H locs hsz hP hS => ?_)
  have hF : zfrF 61 (rup (rup (rup (rup (F) 56 2 57) 56 3 58) 56 4 59) 56 5 60) := zfrF_up hF (by decide)
  refine lv_aload_n C.1 C.2.1 dd_X3_init_46 rfl (lv_at hl 0 rfl) ?_
  refine lv_bipush (v := 8) C.1 C.2.1 dd_X3_init_47 (by decide) ?_
  refine en_newa (sh := 20) (N := 8) (ty := .int) (atype := .int) C hsz hP hS hM rfl na_int (by decide +kernel) (by decide +kernel) (by decide) rfl ⟨0, rfl⟩ (fun h => h) (fun _ => rfl) (by decide) (by decide) (Nat.le_of_ble_eq_true rfl) (Nat.le_of_ble_eq_true rfl) (Nat.le_of_ble_eq_true rfl) dd_X3_init_49 (fun H hsz hP hS => ?_)
  have hM : zfrM 62 (zup (zup (M) 56 0 0) 56 1 0) := zfrM_le hM (by decide)
  have hF : zfrF 62 (rup (rup (rup (rup (F) 56 2 57) 56 3 58) 56 4 59) 56 5 60) := zfrF_le hF (by decide)
  refine en_putR (o := 56) (q := 61) C hnam hsz hP hS gf_RX3_31 (fun q h => by cases h; exact ⟨rfl, rfl⟩) (by decide) (by decide +kernel) (by decide +kernel) rfl rfl dd_X3_init_51 (fun H locs hsz hP hS => ?_)
  have hF : zfrF 62 (rup (rup (rup (rup (rup (F) 56 2 57) 56 3 58) 56 4 59) 56 5 60) 56 6 61) := zfrF_up hF (by decide)
  refine lv_aload_n C.1 C.2.1 dd_X3_init_54 rfl (lv_at hl 0 rfl) ?_
  refine lv_bipush (v := 8) C.1 C.2.1 dd_X3_init_55 (by decide) ?_
  refine en_newa (sh := 20) (N := 8) (ty := .int) (atype := .int) C hsz hP hS hM rfl na_int (by decide +kernel) (by decide +kernel) (by decide) rfl ⟨0, rfl⟩ (fun h => h) (fun _ => rfl) (by decide) (by decide) (Nat.le_of_ble_eq_true rfl) (Nat.le_of_ble_eq_true rfl) (Nat.le_of_ble_eq_true rfl) dd_X3_init_57 (fun H hsz hP hS => ?_)
  have hM : zfrM 63 (zup (zup (M) 56 0 0) 56 1 0) := zfrM_le hM (by decide)
  have hF : zfrF 63 (rup (rup (rup (rup (rup (F) 56 2 57) 56 3 58) 56 4 59) 56 5 60) 56 6 61) := zfrF_le hF (by decide)
  refine en_putR (o := 56) (q := 62) C hnam hsz hP hS gf_RX3_34 (fun q h => by cases h; exact ⟨rfl, rfl⟩) (by decide) (by decide +kernel) (by decide +kernel) rfl rfl dd_X3_init_59 (fun H locs hsz hP hS => ?_)
  have hF : zfrF 63 (rup (rup (rup (rup (rup (rup (F) 56 2 57) 56 3 58) 56 4 59) 56 5 60) 56 6 61) 56 7 62) := zfrF_up hF (by decide)
  exact en_ret C rfl dd_X3_init_62 hsz hP hS rfl rfl rfl
def MX_X1_init_63 (M : zM) : zM := zup (M) 63 3 0
def FX_X1_init_63 (F : zF2) : zF2 := rup (rup (rup (rup (rup (F) 63 2 64) 63 4 65) 63 5 66) 63 0 3) 63 1 40
theorem frM_X1_init_63 {M : zM} (h : zfrM 64 M) : zfrM 67 (MX_X1_init_63 M) := (zfrM_up (zfrM_le h (by decide) : zfrM 67 M) (by decide))
theorem frF_X1_init_63 {F : zF2} (h : zfrF 64 F) : zfrF 67 (FX_X1_init_63 F) := (zfrF_up (zfrF_up (zfrF_up (zfrF_up (zfrF_up (zfrF_le h (by decide) : zfrF 67 F) (by decide)) (by decide)) (by decide)) (by decide)) (by decide))
set_option maxHeartbeats 2000000 in
set_option maxRecDepth 50000 in
theorem cn_X1_init_63 (l : Launch) (G : zG) (M : zM) (F : zF2) (hM : zfrM 64 M) (hF : zfrF 64 F) : zMn l G Y_X1_init 1 3 272 [.ref (G.2.1 + 63), .ref (G.2.1 + 3), .ref (G.2.1 + 40)] 64 M F 67 (MX_X1_init_63 M) (FX_X1_init_63 F) := by
  refine zMn_of (by decide +kernel) rfl (Nat.le_of_ble_eq_true rfl) ?_
  intro p e s m args below meth c ls C hnam hsz hP hl
  have hS : va_S (zA G) s.heap s.heap [] := va_S.rf
  have hl : lv_has ls 3 [(0, .ref (G.2.1 + 63)), (1, .ref (G.2.1 + 3)), (2, .ref (G.2.1 + 40))] := hl
  refine lv_aload_n C.1 C.2.1 dd_X1_init_0 rfl (lv_at hl 0 rfl) ?_
  refine en_obj C no_RX1_3 no_i no_c (hl.1.trans C.2.2.2.1.symm) (Nat.le_of_ble_eq_true rfl) (Nat.le_of_ble_eq_true rfl) (Nat.le_of_ble_eq_true rfl) dd_X1_init_1 ?_
  refine lv_aload_n C.1 C.2.1 dd_X1_init_4 rfl (lv_at hl 0 rfl) ?_
  refine lv_bipush (v := 8) C.1 C.2.1 dd_X1_init_5 (by decide) ?_
  refine en_newa (sh := 20) (N := 8) (ty := .int) (atype := .int) C hsz hP hS hM rfl na_int (by decide +kernel) (by decide +kernel) (by decide) rfl ⟨0, rfl⟩ (fun h => h) (fun _ => rfl) (by decide) (by decide) (Nat.le_of_ble_eq_true rfl) (Nat.le_of_ble_eq_true rfl) (Nat.le_of_ble_eq_true rfl) dd_X1_init_7 (fun H hsz hP hS => ?_)
  have hM : zfrM 65 (M) := zfrM_le hM (by decide)
  have hF : zfrF 65 (F) := zfrF_le hF (by decide)
  refine en_putR (o := 63) (q := 64) C hnam hsz hP hS gf_RX1_9 (fun q h => by cases h; exact ⟨rfl, rfl⟩) (by decide) (by decide +kernel) (by decide +kernel) rfl rfl dd_X1_init_9 (fun H locs hsz hP hS => ?_)
  have hF : zfrF 65 (rup (F) 63 2 64) := zfrF_up hF (by decide)
  refine lv_aload_n C.1 C.2.1 dd_X1_init_12 rfl (lv_at hl 0 rfl) ?_
  refine lv_iconst (v := 0) C.1 C.2.1 dd_X1_init_13 (by decide) ?_
  refine en_putI (o := 63) (v := 0) C hsz hP hS gw_RX1_15 (by decide) (by decide +kernel) (by decide +kernel) (by decide) (by decide) dd_X1_init_14 (fun H locs hsz hP hS => ?_)
  have hM : zfrM 65 (zup (M) 63 3 0) := zfrM_up hM (by decide)
  refine lv_aload_n C.1 C.2.1 dd_X1_init_17 rfl (lv_at hl 0 rfl) ?_
  refine lv_bipush (v := 8) C.1 C.2.1 dd_X1_init_18 (by decide) ?_
  refine en_newa (sh := 20) (N := 8) (ty := .int) (atype := .int) C hsz hP hS hM rfl na_int (by decide +kernel) (by decide +kernel) (by decide) rfl ⟨0, rfl⟩ (fun h => h) (fun _ => rfl) (by decide) (by decide) (Nat.le_of_ble_eq_true rfl) (Nat.le_of_ble_eq_true rfl) (Nat.le_of_ble_eq_true rfl) dd_X1_init_20 (fun H hsz hP hS => ?_)
  have hM : zfrM 66 (zup (M) 63 3 0) := zfrM_le hM (by decide)
  have hF : zfrF 66 (rup (F) 63 2 64) := zfrF_le hF (by decide)
  refine en_putR (o := 63) (q := 65) C hnam hsz hP hS gf_RX1_19 (fun q h => by cases h; exact ⟨rfl, rfl⟩) (by decide) (by decide +kernel) (by decide +kernel) rfl rfl dd_X1_init_22 (fun H locs hsz hP hS => ?_)
  have hF : zfrF 66 (rup (rup (F) 63 2 64) 63 4 65) := zfrF_up hF (by decide)
  refine lv_aload_n C.1 C.2.1 dd_X1_init_25 rfl (lv_at hl 0 rfl) ?_
  refine lv_sipush (v := 256) C.1 C.2.1 dd_X1_init_26 (by decide) ?_
  refine en_newa (sh := 20) (N := 256) (ty := .int) (atype := .int) C hsz hP hS hM rfl na_int (by decide +kernel) (by decide +kernel) (by decide) rfl ⟨0, rfl⟩ (fun h => h) (fun _ => rfl) (by decide) (by decide) (Nat.le_of_ble_eq_true rfl) (Nat.le_of_ble_eq_true rfl) (Nat.le_of_ble_eq_true rfl) dd_X1_init_29 (fun H hsz hP hS => ?_)
  have hM : zfrM 67 (zup (M) 63 3 0) := zfrM_le hM (by decide)
  have hF : zfrF 67 (rup (rup (F) 63 2 64) 63 4 65) := zfrF_le hF (by decide)
  refine en_putR (o := 63) (q := 66) C hnam hsz hP hS gf_RX1_22 (fun q h => by cases h; exact ⟨rfl, rfl⟩) (by decide) (by decide +kernel) (by decide +kernel) rfl rfl dd_X1_init_31 (fun H locs hsz hP hS => ?_)
  have hF : zfrF 67 (rup (rup (rup (F) 63 2 64) 63 4 65) 63 5 66) := zfrF_up hF (by decide)
  refine lv_aload_n C.1 C.2.1 dd_X1_init_34 rfl (lv_at hl 0 rfl) ?_
  refine lv_aload_n C.1 C.2.1 dd_X1_init_35 rfl (lv_at hl 1 rfl) ?_
  refine en_putR (o := 63) (q := 3) C hnam hsz hP hS gf_RX1_25 (fun q h => by cases h; exact ⟨rfl, rfl⟩) (by decide) (by decide +kernel) (by decide +kernel) rfl rfl dd_X1_init_36 (fun H locs hsz hP hS => ?_)
  have hF : zfrF 67 (rup (rup (rup (rup (F) 63 2 64) 63 4 65) 63 5 66) 63 0 3) := zfrF_up hF (by decide)
  refine lv_aload_n C.1 C.2.1 dd_X1_init_39 rfl (lv_at hl 0 rfl) ?_
  refine lv_aload_n C.1 C.2.1 dd_X1_init_40 rfl (lv_at hl 2 rfl) ?_
  refine en_putR (o := 63) (q := 40) C hnam hsz hP hS gf_RX1_29 (fun q h => by cases h; exact ⟨rfl, rfl⟩) (by decide) (by decide +kernel) (by decide +kernel) rfl rfl dd_X1_init_41 (fun H locs hsz hP hS => ?_)
  have hF : zfrF 67 (rup (rup (rup (rup (rup (F) 63 2 64) 63 4 65) 63 5 66) 63 0 3) 63 1 40) := zfrF_up hF (by decide)
  exact en_ret C rfl dd_X1_init_44 hsz hP hS rfl rfl rfl
def MX_X2_init_67 (M : zM) : zM := zup (M) 67 2 (-1)
def FX_X2_init_67 (F : zF2) : zF2 := rup (rup (F) 67 1 68) 67 0 40
theorem frM_X2_init_67 {M : zM} (h : zfrM 68 M) : zfrM 69 (MX_X2_init_67 M) := (zfrM_up (zfrM_le h (by decide) : zfrM 69 M) (by decide))
theorem frF_X2_init_67 {F : zF2} (h : zfrF 68 F) : zfrF 69 (FX_X2_init_67 F) := (zfrF_up (zfrF_up (zfrF_le h (by decide) : zfrF 69 F) (by decide)) (by decide))
set_option maxHeartbeats 2000000 in
set_option maxRecDepth 50000 in
theorem cn_X2_init_67 (l : Launch) (G : zG) (M : zM) (F : zF2) (hM : zfrM 68 M) (hF : zfrF 68 F) : zMn l G Y_X2_init 1 1 4096 [.ref (G.2.1 + 67), .ref (G.2.1 + 40)] 68 M F 69 (MX_X2_init_67 M) (FX_X2_init_67 F) := by
  refine zMn_of (by decide +kernel) rfl (Nat.le_of_ble_eq_true rfl) ?_
  intro p e s m args below meth c ls C hnam hsz hP hl
  have hS : va_S (zA G) s.heap s.heap [] := va_S.rf
  have hl : lv_has ls 2 [(0, .ref (G.2.1 + 67)), (1, .ref (G.2.1 + 40))] := hl
  refine lv_aload_n C.1 C.2.1 dd_X2_init_0 rfl (lv_at hl 0 rfl) ?_
  refine en_obj C no_RX2_3 no_i no_c (hl.1.trans C.2.2.2.1.symm) (Nat.le_of_ble_eq_true rfl) (Nat.le_of_ble_eq_true rfl) (Nat.le_of_ble_eq_true rfl) dd_X2_init_1 ?_
  refine lv_aload_n C.1 C.2.1 dd_X2_init_4 rfl (lv_at hl 0 rfl) ?_
  refine lv_sipush (v := 4096) C.1 C.2.1 dd_X2_init_5 (by decide) ?_
  refine en_newa (sh := 21) (N := 4096) (ty := .byte) (atype := .byte) C hsz hP hS hM rfl na_byte (by decide +kernel) (by decide +kernel) (by decide) rfl ⟨1, rfl⟩ (fun h => h) (fun _ => rfl) (by decide) (by decide) (Nat.le_of_ble_eq_true rfl) (Nat.le_of_ble_eq_true rfl) (Nat.le_of_ble_eq_true rfl) dd_X2_init_8 (fun H hsz hP hS => ?_)
  have hM : zfrM 69 (M) := zfrM_le hM (by decide)
  have hF : zfrF 69 (F) := zfrF_le hF (by decide)
  refine en_putR (o := 67) (q := 68) C hnam hsz hP hS gf_RX2_9 (fun q h => by cases h; exact ⟨rfl, rfl⟩) (by decide) (by decide +kernel) (by decide +kernel) rfl rfl dd_X2_init_10 (fun H locs hsz hP hS => ?_)
  have hF : zfrF 69 (rup (F) 67 1 68) := zfrF_up hF (by decide)
  refine lv_aload_n C.1 C.2.1 dd_X2_init_13 rfl (lv_at hl 0 rfl) ?_
  refine lv_iconst (v := (-1)) C.1 C.2.1 dd_X2_init_14 (by decide) ?_
  refine en_putI (o := 67) (v := (-1)) C hsz hP hS gw_RX2_15 (by decide) (by decide +kernel) (by decide +kernel) (by decide) (by decide) dd_X2_init_15 (fun H locs hsz hP hS => ?_)
  have hM : zfrM 69 (zup (M) 67 2 (-1)) := zfrM_up hM (by decide)
  refine lv_aload_n C.1 C.2.1 dd_X2_init_18 rfl (lv_at hl 0 rfl) ?_
  refine lv_aload_n C.1 C.2.1 dd_X2_init_19 rfl (lv_at hl 1 rfl) ?_
  refine en_putR (o := 67) (q := 40) C hnam hsz hP hS gf_RX2_19 (fun q h => by cases h; exact ⟨rfl, rfl⟩) (by decide) (by decide +kernel) (by decide +kernel) rfl rfl dd_X2_init_20 (fun H locs hsz hP hS => ?_)
  have hF : zfrF 69 (rup (rup (F) 67 1 68) 67 0 40) := zfrF_up hF (by decide)
  exact en_ret C rfl dd_X2_init_23 hsz hP hS rfl rfl rfl
def MX_X4_init_69 (M : zM) : zM := zup (zup (M) 69 3 0) 69 6 (-1)
def FX_X4_init_69 (F : zF2) : zF2 := rup (rup (rup (rup (rup (F) 69 2 70) 69 4 71) 69 5 72) 69 0 40) 69 1 67
theorem frM_X4_init_69 {M : zM} (h : zfrM 70 M) : zfrM 73 (MX_X4_init_69 M) := (zfrM_up (zfrM_up (zfrM_le h (by decide) : zfrM 73 M) (by decide)) (by decide))
theorem frF_X4_init_69 {F : zF2} (h : zfrF 70 F) : zfrF 73 (FX_X4_init_69 F) := (zfrF_up (zfrF_up (zfrF_up (zfrF_up (zfrF_up (zfrF_le h (by decide) : zfrF 73 F) (by decide)) (by decide)) (by decide)) (by decide)) (by decide))
set_option maxHeartbeats 2000000 in
set_option maxRecDepth 50000 in
theorem cn_X4_init_69 (l : Launch) (G : zG) (M : zM) (F : zF2) (hM : zfrM 70 M) (hF : zfrF 70 F) : zMn l G Y_X4_init 1 3 2160 [.ref (G.2.1 + 69), .ref (G.2.1 + 40), .ref (G.2.1 + 67)] 70 M F 73 (MX_X4_init_69 M) (FX_X4_init_69 F) := by
  refine zMn_of (by decide +kernel) rfl (Nat.le_of_ble_eq_true rfl) ?_
  intro p e s m args below meth c ls C hnam hsz hP hl
  have hS : va_S (zA G) s.heap s.heap [] := va_S.rf
  have hl : lv_has ls 3 [(0, .ref (G.2.1 + 69)), (1, .ref (G.2.1 + 40)), (2, .ref (G.2.1 + 67))] := hl
  refine lv_aload_n C.1 C.2.1 dd_X4_init_0 rfl (lv_at hl 0 rfl) ?_
  refine en_obj C no_RX4_3 no_i no_c (hl.1.trans C.2.2.2.1.symm) (Nat.le_of_ble_eq_true rfl) (Nat.le_of_ble_eq_true rfl) (Nat.le_of_ble_eq_true rfl) dd_X4_init_1 ?_
  refine lv_aload_n C.1 C.2.1 dd_X4_init_4 rfl (lv_at hl 0 rfl) ?_
  refine lv_sipush (v := 720) C.1 C.2.1 dd_X4_init_5 (by decide) ?_
  refine en_newa (sh := 20) (N := 720) (ty := .int) (atype := .int) C hsz hP hS hM rfl na_int (by decide +kernel) (by decide +kernel) (by decide) rfl ⟨0, rfl⟩ (fun h => h) (fun _ => rfl) (by decide) (by decide) (Nat.le_of_ble_eq_true rfl) (Nat.le_of_ble_eq_true rfl) (Nat.le_of_ble_eq_true rfl) dd_X4_init_8 (fun H hsz hP hS => ?_)
  have hM : zfrM 71 (M) := zfrM_le hM (by decide)
  have hF : zfrF 71 (F) := zfrF_le hF (by decide)
  refine en_putR (o := 69) (q := 70) C hnam hsz hP hS gf_RX4_9 (fun q h => by cases h; exact ⟨rfl, rfl⟩) (by decide) (by decide +kernel) (by decide +kernel) rfl rfl dd_X4_init_10 (fun H locs hsz hP hS => ?_)
  have hF : zfrF 71 (rup (F) 69 2 70) := zfrF_up hF (by decide)
  refine lv_aload_n C.1 C.2.1 dd_X4_init_13 rfl (lv_at hl 0 rfl) ?_
  refine lv_iconst (v := 0) C.1 C.2.1 dd_X4_init_14 (by decide) ?_
  refine en_putI (o := 69) (v := 0) C hsz hP hS gw_RX4_15 (by decide) (by decide +kernel) (by decide +kernel) (by decide) (by decide) dd_X4_init_15 (fun H locs hsz hP hS => ?_)
  have hM : zfrM 71 (zup (M) 69 3 0) := zfrM_up hM (by decide)
  refine lv_aload_n C.1 C.2.1 dd_X4_init_18 rfl (lv_at hl 0 rfl) ?_
  refine lv_sipush (v := 720) C.1 C.2.1 dd_X4_init_19 (by decide) ?_
  refine en_newa (sh := 20) (N := 720) (ty := .int) (atype := .int) C hsz hP hS hM rfl na_int (by decide +kernel) (by decide +kernel) (by decide) rfl ⟨0, rfl⟩ (fun h => h) (fun _ => rfl) (by decide) (by decide) (Nat.le_of_ble_eq_true rfl) (Nat.le_of_ble_eq_true rfl) (Nat.le_of_ble_eq_true rfl) dd_X4_init_22 (fun H hsz hP hS => ?_)
  have hM : zfrM 72 (zup (M) 69 3 0) := zfrM_le hM (by decide)
  have hF : zfrF 72 (rup (F) 69 2 70) := zfrF_le hF (by decide)
  refine en_putR (o := 69) (q := 71) C hnam hsz hP hS gf_RX4_19 (fun q h => by cases h; exact ⟨rfl, rfl⟩) (by decide) (by decide +kernel) (by decide +kernel) rfl rfl dd_X4_init_24 (fun H locs hsz hP hS => ?_)
  have hF : zfrF 72 (rup (rup (F) 69 2 70) 69 4 71) := zfrF_up hF (by decide)
  refine lv_aload_n C.1 C.2.1 dd_X4_init_27 rfl (lv_at hl 0 rfl) ?_
  refine lv_sipush (v := 720) C.1 C.2.1 dd_X4_init_28 (by decide) ?_
  refine en_newa (sh := 20) (N := 720) (ty := .int) (atype := .int) C hsz hP hS hM rfl na_int (by decide +kernel) (by decide +kernel) (by decide) rfl ⟨0, rfl⟩ (fun h => h) (fun _ => rfl) (by decide) (by decide) (Nat.le_of_ble_eq_true rfl) (Nat.le_of_ble_eq_true rfl) (Nat.le_of_ble_eq_true rfl) dd_X4_init_31 (fun H hsz hP hS => ?_)
  have hM : zfrM 73 (zup (M) 69 3 0) := zfrM_le hM (by decide)
  have hF : zfrF 73 (rup (rup (F) 69 2 70) 69 4 71) := zfrF_le hF (by decide)
  refine en_putR (o := 69) (q := 72) C hnam hsz hP hS gf_RX4_22 (fun q h => by cases h; exact ⟨rfl, rfl⟩) (by decide) (by decide +kernel) (by decide +kernel) rfl rfl dd_X4_init_33 (fun H locs hsz hP hS => ?_)
  have hF : zfrF 73 (rup (rup (rup (F) 69 2 70) 69 4 71) 69 5 72) := zfrF_up hF (by decide)
  refine lv_aload_n C.1 C.2.1 dd_X4_init_36 rfl (lv_at hl 0 rfl) ?_
  refine lv_iconst (v := (-1)) C.1 C.2.1 dd_X4_init_37 (by decide) ?_
  refine en_putI (o := 69) (v := (-1)) C hsz hP hS gw_RX4_25 (by decide) (by decide +kernel) (by decide +kernel) (by decide) (by decide) dd_X4_init_38 (fun H locs hsz hP hS => ?_)
  have hM : zfrM 73 (zup (zup (M) 69 3 0) 69 6 (-1)) := zfrM_up hM (by decide)
  refine lv_aload_n C.1 C.2.1 dd_X4_init_41 rfl (lv_at hl 0 rfl) ?_
  refine lv_aload_n C.1 C.2.1 dd_X4_init_42 rfl (lv_at hl 1 rfl) ?_
  refine en_putR (o := 69) (q := 40) C hnam hsz hP hS gf_RX4_28 (fun q h => by cases h; exact ⟨rfl, rfl⟩) (by decide) (by decide +kernel) (by decide +kernel) rfl rfl dd_X4_init_43 (fun H locs hsz hP hS => ?_)
  have hF : zfrF 73 (rup (rup (rup (rup (F) 69 2 70) 69 4 71) 69 5 72) 69 0 40) := zfrF_up hF (by decide)
  refine lv_aload_n C.1 C.2.1 dd_X4_init_46 rfl (lv_at hl 0 rfl) ?_
  refine lv_aload_n C.1 C.2.1 dd_X4_init_47 rfl (lv_at hl 2 rfl) ?_
  refine en_putR (o := 69) (q := 67) C hnam hsz hP hS gf_RX4_32 (fun q h => by cases h; exact ⟨rfl, rfl⟩) (by decide) (by decide +kernel) (by decide +kernel) rfl rfl dd_X4_init_48 (fun H locs hsz hP hS => ?_)
  have hF : zfrF 73 (rup (rup (rup (rup (rup (F) 69 2 70) 69 4 71) 69 5 72) 69 0 40) 69 1 67) := zfrF_up hF (by decide)
  exact en_ret C rfl dd_X4_init_51 hsz hP hS rfl rfl rfl
def MX_X5_init_73 (M : zM) : zM := zup (zup (zup (zup (M) 73 7 0) 73 8 0) 73 9 0) 73 10 (-1)
def FX_X5_init_73 (F : zF2) : zF2 := rup (rup (rup (rup (rup (rup (rup (F) 73 3 74) 73 4 75) 73 5 76) 73 6 77) 73 0 40) 73 1 67) 73 2 49
theorem frM_X5_init_73 {M : zM} (h : zfrM 74 M) : zfrM 78 (MX_X5_init_73 M) := (zfrM_up (zfrM_up (zfrM_up (zfrM_up (zfrM_le h (by decide) : zfrM 78 M) (by decide)) (by decide)) (by decide)) (by decide))
theorem frF_X5_init_73 {F : zF2} (h : zfrF 74 F) : zfrF 78 (FX_X5_init_73 F) := (zfrF_up (zfrF_up (zfrF_up (zfrF_up (zfrF_up (zfrF_up (zfrF_up (zfrF_le h (by decide) : zfrF 78 F) (by decide)) (by decide)) (by decide)) (by decide)) (by decide)) (by decide)) (by decide))
set_option maxHeartbeats 2000000 in
set_option maxRecDepth 50000 in
theorem cn_X5_init_73 (l : Launch) (G : zG) (M : zM) (F : zF2) (hM : zfrM 74 M) (hF : zfrF 74 F) : zMn l G Y_X5_init 1 4 78 [.ref (G.2.1 + 73), .ref (G.2.1 + 40), .ref (G.2.1 + 67), .ref (G.2.1 + 49)] 74 M F 78 (MX_X5_init_73 M) (FX_X5_init_73 F) := by
  refine zMn_of (by decide +kernel) rfl (Nat.le_of_ble_eq_true rfl) ?_
  intro p e s m args below meth c ls C hnam hsz hP hl
  have hS : va_S (zA G) s.heap s.heap [] := va_S.rf
  have hl : lv_has ls 4 [(0, .ref (G.2.1 + 73)), (1, .ref (G.2.1 + 40)), (2, .ref (G.2.1 + 67)), (3, .ref (G.2.1 + 49))] := hl
  refine lv_aload_n C.1 C.2.1 dd_X5_init_0 rfl (lv_at hl 0 rfl) ?_
  refine en_obj C no_RX5_3 no_i no_c (hl.1.trans C.2.2.2.1.symm) (Nat.le_of_ble_eq_true rfl) (Nat.le_of_ble_eq_true rfl) (Nat.le_of_ble_eq_true rfl) dd_X5_init_1 ?_
  refine lv_aload_n C.1 C.2.1 dd_X5_init_4 rfl (lv_at hl 0 rfl) ?_
  refine lv_bipush (v := 8) C.1 C.2.1 dd_X5_init_5 (by decide) ?_
  refine en_newa (sh := 20) (N := 8) (ty := .int) (atype := .int) C hsz hP hS hM rfl na_int (by decide +kernel) (by decide +kernel) (by decide) rfl ⟨0, rfl⟩ (fun h => h) (fun _ => rfl) (by decide) (by decide) (Nat.le_of_ble_eq_true rfl) (Nat.le_of_ble_eq_true rfl) (Nat.le_of_ble_eq_true rfl) dd_X5_init_7 (fun H hsz hP hS => ?_)
  have hM : zfrM 75 (M) := zfrM_le hM (by decide)
  have hF : zfrF 75 (F) := zfrF_le hF (by decide)
  refine en_putR (o := 73) (q := 74) C hnam hsz hP hS gf_RX5_9 (fun q h => by cases h; exact ⟨rfl, rfl⟩) (by decide) (by decide +kernel) (by decide +kernel) rfl rfl dd_X5_init_9 (fun H locs hsz hP hS => ?_)
  have hF : zfrF 75 (rup (F) 73 3 74) := zfrF_up hF (by decide)
  refine lv_aload_n C.1 C.2.1 dd_X5_init_12 rfl (lv_at hl 0 rfl) ?_
  refine lv_iconst (v := 3) C.1 C.2.1 dd_X5_init_13 (by decide) ?_
  refine en_newa (sh := 20) (N := 3) (ty := .int) (atype := .int) C hsz hP hS hM rfl na_int (by decide +kernel) (by decide +kernel) (by decide) rfl ⟨0, rfl⟩ (fun h => h) (fun _ => rfl) (by decide) (by decide) (Nat.le_of_ble_eq_true rfl) (Nat.le_of_ble_eq_true rfl) (Nat.le_of_ble_eq_true rfl) dd_X5_init_14 (fun H hsz hP hS => ?_)
  have hM : zfrM 76 (M) := zfrM_le hM (by decide)
  have hF : zfrF 76 (rup (F) 73 3 74) := zfrF_le hF (by decide)
  refine en_putR (o := 73) (q := 75) C hnam hsz hP hS gf_RX5_15 (fun q h => by cases h; exact ⟨rfl, rfl⟩) (by decide) (by decide +kernel) (by decide +kernel) rfl rfl dd_X5_init_16 (fun H locs hsz hP hS => ?_)
  have hF : zfrF 76 (rup (rup (F) 73 3 74) 73 4 75) := zfrF_up hF (by decide)
  refine lv_aload_n C.1 C.2.1 dd_X5_init_19 rfl (lv_at hl 0 rfl) ?_
  refine lv_iconst (v := 3) C.1 C.2.1 dd_X5_init_20 (by decide) ?_
  refine en_newa (sh := 20) (N := 3) (ty := .int) (atype := .int) C hsz hP hS hM rfl na_int (by decide +kernel) (by decide +kernel) (by decide) rfl ⟨0, rfl⟩ (fun h => h) (fun _ => rfl) (by decide) (by decide) (Nat.le_of_ble_eq_true rfl) (Nat.le_of_ble_eq_true rfl) (Nat.le_of_ble_eq_true rfl) dd_X5_init_21 (fun H hsz hP hS => ?_)
  have hM : zfrM 77 (M) := zfrM_le hM (by decide)
  have hF : zfrF 77 (rup (rup (F) 73 3 74) 73 4 75) := zfrF_le hF (by decide)
  refine en_putR (o := 73) (q := 76) C hnam hsz hP hS gf_RX5_18 (fun q h => by cases h; exact ⟨rfl, rfl⟩) (by decide) (by decide +kernel) (by decide +kernel) rfl rfl dd_X5_init_23 (fun H locs hsz hP hS => ?_)
  have hF : zfrF 77 (rup (rup (rup (F) 73 3 74) 73 4 75) 73 5 76) := zfrF_up hF (by decide)
  refine lv_aload_n C.1 C.2.1 dd_X5_init_26 rfl (lv_at hl 0 rfl) ?_
  refine lv_bipush (v := 64) C.1 C.2.1 dd_X5_init_27 (by decide) ?_
  refine en_newa (sh := 20) (N := 64) (ty := .int) (atype := .int) C hsz hP hS hM rfl na_int (by decide +kernel) (by decide +kernel) (by decide) rfl ⟨0, rfl⟩ (fun h => h) (fun _ => rfl) (by decide) (by decide) (Nat.le_of_ble_eq_true rfl) (Nat.le_of_ble_eq_true rfl) (Nat.le_of_ble_eq_true rfl) dd_X5_init_29 (fun H hsz hP hS => ?_)
  have hM : zfrM 78 (M) := zfrM_le hM (by decide)
  have hF : zfrF 78 (rup (rup (rup (F) 73 3 74) 73 4 75) 73 5 76) := zfrF_le hF (by decide)
  refine en_putR (o := 73) (q := 77) C hnam hsz hP hS gf_RX5_21 (fun q h => by cases h; exact ⟨rfl, rfl⟩) (by decide) (by decide +kernel) (by decide +kernel) rfl rfl dd_X5_init_31 (fun H locs hsz hP hS => ?_)
  have hF : zfrF 78 (rup (rup (rup (rup (F) 73 3 74) 73 4 75) 73 5 76) 73 6 77) := zfrF_up hF (by decide)
  refine lv_aload_n C.1 C.2.1 dd_X5_init_34 rfl (lv_at hl 0 rfl) ?_
  refine lv_iconst (v := 0) C.1 C.2.1 dd_X5_init_35 (by decide) ?_
  refine en_putI (o := 73) (v := 0) C hsz hP hS gw_RX5_24 (by decide) (by decide +kernel) (by decide +kernel) (by decide) (by decide) dd_X5_init_36 (fun H locs hsz hP hS => ?_)
  have hM : zfrM 78 (zup (M) 73 7 0) := zfrM_up hM (by decide)
  refine lv_aload_n C.1 C.2.1 dd_X5_init_39 rfl (lv_at hl 0 rfl) ?_
  refine lv_iconst (v := 0) C.1 C.2.1 dd_X5_init_40 (by decide) ?_
  refine en_putI (o := 73) (v := 0) C hsz hP hS gw_RX5_28 (by decide) (by decide +kernel) (by decide +kernel) (by decide) (by decide) dd_X5_init_41 (fun H locs hsz hP hS => ?_)
  have hM : zfrM 78 (zup (zup (M) 73 7 0) 73 8 0) := zfrM_up hM (by decide)
  refine lv_aload_n C.1 C.2.1 dd_X5_init_44 rfl (lv_at hl 0 rfl) ?_
  refine lv_iconst (v := 0) C.1 C.2.1 dd_X5_init_45 (by decide) ?_
  refine en_putI (o := 73) (v := 0) C hsz hP hS gw_RX5_31 (by decide) (by decide +kernel) (by decide +kernel) (by decide) (by decide) dd_X5_init_46 (fun H locs hsz hP hS => ?_)
  have hM : zfrM 78 (zup (zup (zup (M) 73 7 0) 73 8 0) 73 9 0) := zfrM_up hM (by decide)
  refine lv_aload_n C.1 C.2.1 dd_X5_init_49 rfl (lv_at hl 0 rfl) ?_
  refine lv_iconst (v := (-1)) C.1 C.2.1 dd_X5_init_50 (by decide) ?_
  refine en_putI (o := 73) (v := (-1)) C hsz hP hS gw_RX5_35 (by decide) (by decide +kernel) (by decide +kernel) (by decide) (by decide) dd_X5_init_51 (fun H locs hsz hP hS => ?_)
  have hM : zfrM 78 (zup (zup (zup (zup (M) 73 7 0) 73 8 0) 73 9 0) 73 10 (-1)) := zfrM_up hM (by decide)
  refine lv_aload_n C.1 C.2.1 dd_X5_init_54 rfl (lv_at hl 0 rfl) ?_
  refine lv_aload_n C.1 C.2.1 dd_X5_init_55 rfl (lv_at hl 1 rfl) ?_
  refine en_putR (o := 73) (q := 40) C hnam hsz hP hS gf_RX5_38 (fun q h => by cases h; exact ⟨rfl, rfl⟩) (by decide) (by decide +kernel) (by decide +kernel) rfl rfl dd_X5_init_56 (fun H locs hsz hP hS => ?_)
  have hF : zfrF 78 (rup (rup (rup (rup (rup (F) 73 3 74) 73 4 75) 73 5 76) 73 6 77) 73 0 40) := zfrF_up hF (by decide)
  refine lv_aload_n C.1 C.2.1 dd_X5_init_59 rfl (lv_at hl 0 rfl) ?_
  refine lv_aload_n C.1 C.2.1 dd_X5_init_60 rfl (lv_at hl 2 rfl) ?_
  refine en_putR (o := 73) (q := 67) C hnam hsz hP hS gf_RX5_42 (fun q h => by cases h; exact ⟨rfl, rfl⟩) (by decide) (by decide +kernel) (by decide +kernel) rfl rfl dd_X5_init_61 (fun H locs hsz hP hS => ?_)
  have hF : zfrF 78 (rup (rup (rup (rup (rup (rup (F) 73 3 74) 73 4 75) 73 5 76) 73 6 77) 73 0 40) 73 1 67) := zfrF_up hF (by decide)
  refine lv_aload_n C.1 C.2.1 dd_X5_init_64 rfl (lv_at hl 0 rfl) ?_
  refine lv_aload_n C.1 C.2.1 dd_X5_init_65 rfl (lv_at hl 3 rfl) ?_
  refine en_putR (o := 73) (q := 49) C hnam hsz hP hS gf_RX5_46 (fun q h => by cases h; exact ⟨rfl, rfl⟩) (by decide) (by decide +kernel) (by decide +kernel) rfl rfl dd_X5_init_66 (fun H locs hsz hP hS => ?_)
  have hF : zfrF 78 (rup (rup (rup (rup (rup (rup (rup (F) 73 3 74) 73 4 75) 73 5 76) 73 6 77) 73 0 40) 73 1 67) 73 2 49) := zfrF_up hF (by decide)
  exact en_ret C rfl dd_X5_init_69 hsz hP hS rfl rfl rfl
def MX_X11_init_0 (M : zM) : zM := zup (zup (MX_X5_init_73 (MX_X4_init_69 (MX_X2_init_67 (MX_X1_init_63 (MX_X3_init_56 (MX_X3_init_49 (MX_X10_init_46 (MX_X10_init_43 (MX_X10_init_40 (MX_X7_init_39 (MX_X6_init_21 (MX_X6_init_3 (MX_X8_init_1 (M)))))))))))))) 0 14 0) 0 15 0
def FX_X11_init_0 (F : zF2) : zF2 := rup (rup (FX_X5_init_73 (rup (FX_X4_init_69 (rup (FX_X2_init_67 (rup (FX_X1_init_63 (rup (FX_X3_init_56 (rup (FX_X3_init_49 (rup (FX_X10_init_46 (rup (FX_X10_init_43 (rup (FX_X10_init_40 (rup (FX_X7_init_39 (rup (FX_X6_init_21 (rup (FX_X6_init_3 (rup (FX_X8_init_1 (F)) 0 0 1)) 0 1 3)) 0 2 21)) 0 3 39)) 0 4 40)) 0 5 43)) 0 6 46)) 0 7 49)) 0 8 56)) 0 9 63)) 0 10 67)) 0 11 69)) 0 12 73) 0 13 78
theorem frM_X11_init_0 {M : zM} (h : zfrM 1 M) : zfrM 79 (MX_X11_init_0 M) := (zfrM_up (zfrM_up (zfrM_le (k' := 79) (frM_X5_init_73 (zfrM_le (k' := 74) (frM_X4_init_69 (zfrM_le (k' := 70) (frM_X2_init_67 (zfrM_le (k' := 68) (frM_X1_init_63 (zfrM_le (k' := 64) (frM_X3_init_56 (zfrM_le (k' := 57) (frM_X3_init_49 (zfrM_le (k' := 50) (frM_X10_init_46 (zfrM_le (k' := 47) (frM_X10_init_43 (zfrM_le (k' := 44) (frM_X10_init_40 (zfrM_le (k' := 41) (frM_X7_init_39 (zfrM_le (k' := 40) (frM_X6_init_21 (zfrM_le (k' := 22) (frM_X6_init_3 (zfrM_le (k' := 4) (frM_X8_init_1 (zfrM_le h (by decide) : zfrM 2 M)) (by decide))) (by decide))) (by decide))) (by decide))) (by decide))) (by decide))) (by decide))) (by decide))) (by decide))) (by decide))) (by decide))) (by decide))) (by decide)) (by decide)) (by decide))
theorem frF_X11_init_0 {F : zF2} (h : zfrF 1 F) : zfrF 79 (FX_X11_init_0 F) := (zfrF_up (zfrF_up (zfrF_le (k' := 79) (frF_X5_init_73 (zfrF_up (zfrF_le (k' := 74) (frF_X4_init_69 (zfrF_up (zfrF_le (k' := 70) (frF_X2_init_67 (zfrF_up (zfrF_le (k' := 68) (frF_X1_init_63 (zfrF_up (zfrF_le (k' := 64) (frF_X3_init_56 (zfrF_up (zfrF_le (k' := 57) (frF_X3_init_49 (zfrF_up (zfrF_le (k' := 50) (frF_X10_init_46 (zfrF_up (zfrF_le (k' := 47) (frF_X10_init_43 (zfrF_up (zfrF_le (k' := 44) (frF_X10_init_40 (zfrF_up (zfrF_le (k' := 41) (frF_X7_init_39 (zfrF_up (zfrF_le (k' := 40) (frF_X6_init_21 (zfrF_up (zfrF_le (k' := 22) (frF_X6_init_3 (zfrF_up (zfrF_le (k' := 4) (frF_X8_init_1 (zfrF_le h (by decide) : zfrF 2 F)) (by decide)) (by decide))) (by decide)) (by decide))) (by decide)) (by decide))) (by decide)) (by decide))) (by decide)) (by decide))) (by decide)) (by decide))) (by decide)) (by decide))) (by decide)) (by decide))) (by decide)) (by decide))) (by decide)) (by decide))) (by decide)) (by decide))) (by decide)) (by decide))) (by decide)) (by decide)) (by decide))
set_option maxHeartbeats 2000000 in
set_option maxRecDepth 50000 in
theorem cn_X11_init_0 (l : Launch) (G : zG) (M : zM) (F : zF2) (hM : zfrM 1 M) (hF : zfrF 1 F) : zMn l G Y_X11_init 3 78 9931 [.ref (G.2.1 + 0)] 1 M F 79 (MX_X11_init_0 M) (FX_X11_init_0 F) := by
  refine zMn_of (by decide +kernel) rfl (Nat.le_of_ble_eq_true rfl) ?_
  intro p e s m args below meth c ls C hnam hsz hP hl
  have hS : va_S (zA G) s.heap s.heap [] := va_S.rf
  have hl : lv_has ls 1 [(0, .ref (G.2.1 + 0))] := hl
  refine lv_aload_n C.1 C.2.1 dd_X11_init_0 rfl (lv_at hl 0 rfl) ?_
  refine en_obj C no_RX11_1 no_i no_c (hl.1.trans C.2.2.2.1.symm) (Nat.le_of_ble_eq_true rfl) (Nat.le_of_ble_eq_true rfl) (Nat.le_of_ble_eq_true rfl) dd_X11_init_1 ?_
  refine lv_aload_n C.1 C.2.1 dd_X11_init_4 rfl (lv_at hl 0 rfl) ?_
  refine en_new (ci := 8) tyX8 C hsz hP hS hM hF rfl inX_8 tyX8_ok nl_RX11_7 ni_RX8 nn_RX8 (by decide +kernel) (by decide) (by decide +kernel) (df_8 _) (Nat.le_of_ble_eq_true rfl) (Nat.le_of_ble_eq_true rfl) dd_X11_init_5 (fun H hsz hP hS => ?_)
  have hM : zfrM 2 (M) := zfrM_le hM (by decide)
  have hF : zfrF 2 (F) := zfrF_le hF (by decide)
  refine lv_dup C.1 C.2.1 dd_X11_init_8 rfl ?_
  refine en_callN (As := []) (n := 0) C hsz hP hS hl.1 (cn_X8_init_1 l G (M) (F) hM hF) nm_X8_init rfl rfl (by decide +kernel) nx_X8_init (by decide +kernel) ⟨(Nat.le_of_ble_eq_true rfl), (Nat.le_of_ble_eq_true rfl)⟩ ⟨(Nat.le_of_ble_eq_true rfl), (Nat.le_of_ble_eq_true rfl)⟩ (Nat.le_of_ble_eq_true rfl) rfl dd_X11_init_9 rfl (fun H locs hsz hP hS => ?_)
  have hM : zfrM 3 (MX_X8_init_1 (M)) := frM_X8_init_1 hM
  have hF : zfrF 3 (FX_X8_init_1 (F)) := frF_X8_init_1 hF
  refine en_putR (o := 0) (q := 1) C hnam hsz hP hS gf_RX11_10 (fun q h => by cases h; exact ⟨rfl, rfl⟩) (by decide) (by decide +kernel) (by decide +kernel) rfl rfl dd_X11_init_12 (fun H locs hsz hP hS => ?_)
  have hF : zfrF 3 (rup (FX_X8_init_1 (F)) 0 0 1) := zfrF_up hF (by decide)
  refine lv_aload_n C.1 C.2.1 dd_X11_init_15 rfl (lv_at hl 0 rfl) ?_
  refine en_new (ci := 6) tyX6 C hsz hP hS hM hF rfl inX_6 tyX6_ok nl_RX11_16 ni_RX6 nn_RX6 (by decide +kernel) (by decide) (by decide +kernel) (df_6 _) (Nat.le_of_ble_eq_true rfl) (Nat.le_of_ble_eq_true rfl) dd_X11_init_16 (fun H hsz hP hS => ?_)
  have hM : zfrM 4 (MX_X8_init_1 (M)) := zfrM_le hM (by decide)
  have hF : zfrF 4 (rup (FX_X8_init_1 (F)) 0 0 1) := zfrF_le hF (by decide)
  refine lv_dup C.1 C.2.1 dd_X11_init_19 rfl ?_
  refine en_callN (As := []) (n := 0) C hsz hP hS hl.1 (cn_X6_init_3 l G (MX_X8_init_1 (M)) (rup (FX_X8_init_1 (F)) 0 0 1) hM hF) nm_X6_init rfl rfl (by decide +kernel) nx_X6_init (by decide +kernel) ⟨(Nat.le_of_ble_eq_true rfl), (Nat.le_of_ble_eq_true rfl)⟩ ⟨(Nat.le_of_ble_eq_true rfl), (Nat.le_of_ble_eq_true rfl)⟩ (Nat.le_of_ble_eq_true rfl) rfl dd_X11_init_20 rfl (fun H locs hsz hP hS => ?_)
  have hM : zfrM 21 (MX_X6_init_3 (MX_X8_init_1 (M))) := frM_X6_init_3 hM
  have hF : zfrF 21 (FX_X6_init_3 (rup (FX_X8_init_1 (F)) 0 0 1)) := frF_X6_init_3 hF
  refine en_putR (o := 0) (q := 3) C hnam hsz hP hS gf_RX11_19 (fun q h => by cases h; exact ⟨rfl, rfl⟩) (by decide) (by decide +kernel) (by decide +kernel) rfl rfl dd_X11_init_23 (fun H locs hsz hP hS => ?_)
  have hF : zfrF 21 (rup (FX_X6_init_3 (rup (FX_X8_init_1 (F)) 0 0 1)) 0 1 3) := zfrF_up hF (by decide)
  refine lv_aload_n C.1 C.2.1 dd_X11_init_26 rfl (lv_at hl 0 rfl) ?_
  refine en_new (ci := 6) tyX6 C hsz hP hS hM hF rfl inX_6 tyX6_ok nl_RX11_16 ni_RX6 nn_RX6 (by decide +kernel) (by decide) (by decide +kernel) (df_6 _) (Nat.le_of_ble_eq_true rfl) (Nat.le_of_ble_eq_true rfl) dd_X11_init_27 (fun H hsz hP hS => ?_)
  have hM : zfrM 22 (MX_X6_init_3 (MX_X8_init_1 (M))) := zfrM_le hM (by decide)
  have hF : zfrF 22 (rup (FX_X6_init_3 (rup (FX_X8_init_1 (F)) 0 0 1)) 0 1 3) := zfrF_le hF (by decide)
  refine lv_dup C.1 C.2.1 dd_X11_init_30 rfl ?_
  refine en_callN (As := []) (n := 0) C hsz hP hS hl.1 (cn_X6_init_21 l G (MX_X6_init_3 (MX_X8_init_1 (M))) (rup (FX_X6_init_3 (rup (FX_X8_init_1 (F)) 0 0 1)) 0 1 3) hM hF) nm_X6_init rfl rfl (by decide +kernel) nx_X6_init (by decide +kernel) ⟨(Nat.le_of_ble_eq_true rfl), (Nat.le_of_ble_eq_true rfl)⟩ ⟨(Nat.le_of_ble_eq_true rfl), (Nat.le_of_ble_eq_true rfl)⟩ (Nat.le_of_ble_eq_true rfl) rfl dd_X11_init_31 rfl (fun H locs hsz hP hS => ?_)
  have hM : zfrM 39 (MX_X6_init_21 (MX_X6_init_3 (MX_X8_init_1 (M)))) := frM_X6_init_21 hM
  have hF : zfrF 39 (FX_X6_init_21 (rup (FX_X6_init_3 (rup (FX_X8_init_1 (F)) 0 0 1)) 0 1 3)) := frF_X6_init_21 hF
  refine en_putR (o := 0) (q := 21) C hnam hsz hP hS gf_RX11_23 (fun q h => by cases h; exact ⟨rfl, rfl⟩) (by decide) (by decide +kernel) (by decide +kernel) rfl rfl dd_X11_init_34 (fun H locs hsz hP hS => ?_)
  have hF : zfrF 39 (rup (FX_X6_init_21 (rup (FX_X6_init_3 (rup (FX_X8_init_1 (F)) 0 0 1)) 0 1 3)) 0 2 21) := zfrF_up hF (by decide)
  refine lv_aload_n C.1 C.2.1 dd_X11_init_37 rfl (lv_at hl 0 rfl) ?_
  refine en_new (ci := 7) tyX7 C hsz hP hS hM hF rfl inX_7 tyX7_ok nl_RX11_26 ni_RX7 nn_RX7 (by decide +kernel) (by decide) (by decide +kernel) (df_7 _) (Nat.le_of_ble_eq_true rfl) (Nat.le_of_ble_eq_true rfl) dd_X11_init_38 (fun H hsz hP hS => ?_)
  have hM : zfrM 40 (MX_X6_init_21 (MX_X6_init_3 (MX_X8_init_1 (M)))) := zfrM_le hM (by decide)
  have hF : zfrF 40 (rup (FX_X6_init_21 (rup (FX_X6_init_3 (rup (FX_X8_init_1 (F)) 0 0 1)) 0 1 3)) 0 2 21) := zfrF_le hF (by decide)
  refine lv_dup C.1 C.2.1 dd_X11_init_41 rfl ?_
  refine lv_aload_n C.1 C.2.1 dd_X11_init_42 rfl (lv_at hl 0 rfl) ?_
  refine en_getR (o := 0) (q := 1) C hP gf_RX11_10 (by decide) (by decide +kernel) (by decide +kernel) (by rfl) dd_X11_init_43 ?_
  refine lv_aload_n C.1 C.2.1 dd_X11_init_46 rfl (lv_at hl 0 rfl) ?_
  refine en_getR (o := 0) (q := 21) C hP gf_RX11_23 (by decide) (by decide +kernel) (by decide +kernel) (by rfl) dd_X11_init_47 ?_
  refine en_callI (As := [.ref (G.2.1 + 1), .ref (G.2.1 + 21)]) (n := 2) C hsz hP hS hl.1 (cn_X7_init_39 l G (MX_X6_init_21 (MX_X6_init_3 (MX_X8_init_1 (M)))) (rup (FX_X6_init_21 (rup (FX_X6_init_3 (rup (FX_X8_init_1 (F)) 0 0 1)) 0 1 3)) 0 2 21) hM hF) nm_X7_init rfl rfl nk_RX11_28 nx_X7_init (by decide +kernel) ⟨(Nat.le_of_ble_eq_true rfl), (Nat.le_of_ble_eq_true rfl)⟩ ⟨(Nat.le_of_ble_eq_true rfl), (Nat.le_of_ble_eq_true rfl)⟩ (Nat.le_of_ble_eq_true rfl) rfl dd_X11_init_50 rfl (fun H locs hsz hP hS => ?_)
  have hM : zfrM 40 (MX_X7_init_39 (MX_X6_init_21 (MX_X6_init_3 (MX_X8_init_1 (M))))) := frM_X7_init_39 hM
  have hF : zfrF 40 (FX_X7_init_39 (rup (FX_X6_init_21 (rup (FX_X6_init_3 (rup (FX_X8_init_1 (F)) 0 0 1)) 0 1 3)) 0 2 21)) := frF_X7_init_39 hF
  refine en_putR (o := 0) (q := 39) C hnam hsz hP hS gf_RX11_31 (fun q h => by cases h; exact ⟨rfl, rfl⟩) (by decide) (by decide +kernel) (by decide +kernel) rfl rfl dd_X11_init_53 (fun H locs hsz hP hS => ?_)
  have hF : zfrF 40 (rup (FX_X7_init_39 (rup (FX_X6_init_21 (rup (FX_X6_init_3 (rup (FX_X8_init_1 (F)) 0 0 1)) 0 1 3)) 0 2 21)) 0 3 39) := zfrF_up hF (by decide)
  refine lv_aload_n C.1 C.2.1 dd_X11_init_56 rfl (lv_at hl 0 rfl) ?_
  refine en_new (ci := 10) tyX10 C hsz hP hS hM hF rfl inX_10 tyX10_ok nl_RX11_35 ni_RX10 nn_RX10 (by decide +kernel) (by decide) (by decide +kernel) (df_10 _) (Nat.le_of_ble_eq_true rfl) (Nat.le_of_ble_eq_true rfl) dd_X11_init_57 (fun H hsz hP hS => ?_)
  have hM : zfrM 41 (MX_X7_init_39 (MX_X6_init_21 (MX_X6_init_3 (MX_X8_init_1 (M))))) := zfrM_le hM (by decide)
  have hF : zfrF 41 (rup (FX_X7_init_39 (rup (FX_X6_init_21 (rup (FX_X6_init_3 (rup (FX_X8_init_1 (F)) 0 0 1)) 0 1 3)) 0 2 21)) 0 3 39) := zfrF_le hF (by decide)
  refine lv_dup C.1 C.2.1 dd_X11_init_60 rfl ?_
  refine lv_aload_n C.1 C.2.1 dd_X11_init_61 rfl (lv_at hl 0 rfl) ?_
  refine en_getR (o := 0) (q := 3) C hP gf_RX11_19 (by decide) (by decide +kernel) (by decide +kernel) (by rfl) dd_X11_init_62 ?_
  refine en_callI (As := [.ref (G.2.1 + 3)]) (n := 1) C hsz hP hS hl.1 (cn_X10_init_40 l G (MX_X7_init_39 (MX_X6_init_21 (MX_X6_init_3 (MX_X8_init_1 (M))))) (rup (FX_X7_init_39 (rup (FX_X6_init_21 (rup (FX_X6_init_3 (rup (FX_X8_init_1 (F)) 0 0 1)) 0 1 3)) 0 2 21)) 0 3 39) hM hF) nm_X10_init rfl rfl nk_RX11_37 nx_X10_init (by decide +kernel) ⟨(Nat.le_of_ble_eq_true rfl), (Nat.le_of_ble_eq_true rfl)⟩ ⟨(Nat.le_of_ble_eq_true rfl), (Nat.le_of_ble_eq_true rfl)⟩ (Nat.le_of_ble_eq_true rfl) rfl dd_X11_init_65 rfl (fun H locs hsz hP hS => ?_)
  have hM : zfrM 43 (MX_X10_init_40 (MX_X7_init_39 (MX_X6_init_21 (MX_X6_init_3 (MX_X8_init_1 (M)))))) := frM_X10_init_40 hM
  have hF : zfrF 43 (FX_X10_init_40 (rup (FX_X7_init_39 (rup (FX_X6_init_21 (rup (FX_X6_init_3 (rup (FX_X8_init_1 (F)) 0 0 1)) 0 1 3)) 0 2 21)) 0 3 39)) := frF_X10_init_40 hF
  refine en_putR (o := 0) (q := 40) C hnam hsz hP hS gf_RX11_40 (fun q h => by cases h; exact ⟨rfl, rfl⟩) (by decide) (by decide +kernel) (by decide +kernel) rfl rfl dd_X11_init_68 (fun H locs hsz hP hS => ?_)
  have hF : zfrF 43 (rup (FX_X10_init_40 (rup (FX_X7_init_39 (rup (FX_X6_init_21 (rup (FX_X6_init_3 (rup (FX_X8_init_1 (F)) 0 0 1)) 0 1 3)) 0 2 21)) 0 3 39)) 0 4 40) := zfrF_up hF (by decide)
  refine lv_aload_n C.1 C.2.1 dd_X11_init_71 rfl (lv_at hl 0 rfl) ?_
  refine en_new (ci := 10) tyX10 C hsz hP hS hM hF rfl inX_10 tyX10_ok nl_RX11_35 ni_RX10 nn_RX10 (by decide +kernel) (by decide) (by decide +kernel) (df_10 _) (Nat.le_of_ble_eq_true rfl) (Nat.le_of_ble_eq_true rfl) dd_X11_init_72 (fun H hsz hP hS => ?_)
  have hM : zfrM 44 (MX_X10_init_40 (MX_X7_init_39 (MX_X6_init_21 (MX_X6_init_3 (MX_X8_init_1 (M)))))) := zfrM_le hM (by decide)
  have hF : zfrF 44 (rup (FX_X10_init_40 (rup (FX_X7_init_39 (rup (FX_X6_init_21 (rup (FX_X6_init_3 (rup (FX_X8_init_1 (F)) 0 0 1)) 0 1 3)) 0 2 21)) 0 3 39)) 0 4 40) := zfrF_le hF (by decide)
  refine lv_dup C.1 C.2.1 dd_X11_init_75 rfl ?_
  refine lv_aload_n C.1 C.2.1 dd_X11_init_76 rfl (lv_at hl 0 rfl) ?_
  refine en_getR (o := 0) (q := 3) C hP gf_RX11_19 (by decide) (by decide +kernel) (by decide +kernel) (by rfl) dd_X11_init_77 ?_
  refine en_callI (As := [.ref (G.2.1 + 3)]) (n := 1) C hsz hP hS hl.1 (cn_X10_init_43 l G (MX_X10_init_40 (MX_X7_init_39 (MX_X6_init_21 (MX_X6_init_3 (MX_X8_init_1 (M)))))) (rup (FX_X10_init_40 (rup (FX_X7_init_39 (rup (FX_X6_init_21 (rup (FX_X6_init_3 (rup (FX_X8_init_1 (F)) 0 0 1)) 0 1 3)) 0 2 21)) 0 3 39)) 0 4 40) hM hF) nm_X10_init rfl rfl nk_RX11_37 nx_X10_init (by decide +kernel) ⟨(Nat.le_of_ble_eq_true rfl), (Nat.le_of_ble_eq_true rfl)⟩ ⟨(Nat.le_of_ble_eq_true rfl), (Nat.le_of_ble_eq_true rfl)⟩ (Nat.le_of_ble_eq_true rfl) rfl dd_X11_init_80 rfl (fun H locs hsz hP hS => ?_)
  have hM : zfrM 46 (MX_X10_init_43 (MX_X10_init_40 (MX_X7_init_39 (MX_X6_init_21 (MX_X6_init_3 (MX_X8_init_1 (M))))))) := frM_X10_init_43 hM
  have hF : zfrF 46 (FX_X10_init_43 (rup (FX_X10_init_40 (rup (FX_X7_init_39 (rup (FX_X6_init_21 (rup (FX_X6_init_3 (rup (FX_X8_init_1 (F)) 0 0 1)) 0 1 3)) 0 2 21)) 0 3 39)) 0 4 40)) := frF_X10_init_43 hF
  refine en_putR (o := 0) (q := 43) C hnam hsz hP hS gf_RX11_44 (fun q h => by cases h; exact ⟨rfl, rfl⟩) (by decide) (by decide +kernel) (by decide +kernel) rfl rfl dd_X11_init_83 (fun H locs hsz hP hS => ?_)
  have hF : zfrF 46 (rup (FX_X10_init_43 (rup (FX_X10_init_40 (rup (FX_X7_init_39 (rup (FX_X6_init_21 (rup (FX_X6_init_3 (rup (FX_X8_init_1 (F)) 0 0 1)) 0 1 3)) 0 2 21)) 0 3 39)) 0 4 40)) 0 5 43) := zfrF_up hF (by decide)
  refine lv_aload_n C.1 C.2.1 dd_X11_init_86 rfl (lv_at hl 0 rfl) ?_
  refine en_new (ci := 10) tyX10 C hsz hP hS hM hF rfl inX_10 tyX10_ok nl_RX11_35 ni_RX10 nn_RX10 (by decide +kernel) (by decide) (by decide +kernel) (df_10 _) (Nat.le_of_ble_eq_true rfl) (Nat.le_of_ble_eq_true rfl) dd_X11_init_87 (fun H hsz hP hS => ?_)
  have hM : zfrM 47 (MX_X10_init_43 (MX_X10_init_40 (MX_X7_init_39 (MX_X6_init_21 (MX_X6_init_3 (MX_X8_init_1 (M))))))) := zfrM_le hM (by decide)
  have hF : zfrF 47 (rup (FX_X10_init_43 (rup (FX_X10_init_40 (rup (FX_X7_init_39 (rup (FX_X6_init_21 (rup (FX_X6_init_3 (rup (FX_X8_init_1 (F)) 0 0 1)) 0 1 3)) 0 2 21)) 0 3 39)) 0 4 40)) 0 5 43) := zfrF_le hF (by decide)
  refine lv_dup C.1 C.2.1 dd_X11_init_90 rfl ?_
  refine lv_aload_n C.1 C.2.1 dd_X11_init_91 rfl (lv_at hl 0 rfl) ?_
  refine en_getR (o := 0) (q := 3) C hP gf_RX11_19 (by decide) (by decide +kernel) (by decide +kernel) (by rfl) dd_X11_init_92 ?_
  refine en_callI (As := [.ref (G.2.1 + 3)]) (n := 1) C hsz hP hS hl.1 (cn_X10_init_46 l G (MX_X10_init_43 (MX_X10_init_40 (MX_X7_init_39 (MX_X6_init_21 (MX_X6_init_3 (MX_X8_init_1 (M))))))) (rup (FX_X10_init_43 (rup (FX_X10_init_40 (rup (FX_X7_init_39 (rup (FX_X6_init_21 (rup (FX_X6_init_3 (rup (FX_X8_init_1 (F)) 0 0 1)) 0 1 3)) 0 2 21)) 0 3 39)) 0 4 40)) 0 5 43) hM hF) nm_X10_init rfl rfl nk_RX11_37 nx_X10_init (by decide +kernel) ⟨(Nat.le_of_ble_eq_true rfl), (Nat.le_of_ble_eq_true rfl)⟩ ⟨(Nat.le_of_ble_eq_true rfl), (Nat.le_of_ble_eq_true rfl)⟩ (Nat.le_of_ble_eq_true rfl) rfl dd_X11_init_95 rfl (fun H locs hsz hP hS => ?_)
  have hM : zfrM 49 (MX_X10_init_46 (MX_X10_init_43 (MX_X10_init_40 (MX_X7_init_39 (MX_X6_init_21 (MX_X6_init_3 (MX_X8_init_1 (M)))))))) := frM_X10_init_46 hM
  have hF : zfrF 49 (FX_X10_init_46 (rup (FX_X10_init_43 (rup (FX_X10_init_40 (rup (FX_X7_init_39 (rup (FX_X6_init_21 (rup (FX_X6_init_3 (rup (FX_X8_init_1 (F)) 0 0 1)) 0 1 3)) 0 2 21)) 0 3 39)) 0 4 40)) 0 5 43)) := frF_X10_init_46 hF
  refine en_putR (o := 0) (q := 46) C hnam hsz hP hS gf_RX11_47 (fun q h => by cases h; exact ⟨rfl, rfl⟩) (by decide) (by decide +kernel) (by decide +kernel) rfl rfl dd_X11_init_98 (fun H locs hsz hP hS => ?_)
  have hF : zfrF 49 (rup (FX_X10_init_46 (rup (FX_X10_init_43 (rup (FX_X10_init_40 (rup (FX_X7_init_39 (rup (FX_X6_init_21 (rup (FX_X6_init_3 (rup (FX_X8_init_1 (F)) 0 0 1)) 0 1 3)) 0 2 21)) 0 3 39)) 0 4 40)) 0 5 43)) 0 6 46) := zfrF_up hF (by decide)
  refine lv_aload_n C.1 C.2.1 dd_X11_init_101 rfl (lv_at hl 0 rfl) ?_
  refine en_new (ci := 3) tyX3 C hsz hP hS hM hF rfl inX_3 tyX3_ok nl_RX11_50 ni_RX3 nn_RX3 (by decide +kernel) (by decide) (by decide +kernel) (df_3 _) (Nat.le_of_ble_eq_true rfl) (Nat.le_of_ble_eq_true rfl) dd_X11_init_102 (fun H hsz hP hS => ?_)
  have hM : zfrM 50 (MX_X10_init_46 (MX_X10_init_43 (MX_X10_init_40 (MX_X7_init_39 (MX_X6_init_21 (MX_X6_init_3 (MX_X8_init_1 (M)))))))) := zfrM_le hM (by decide)
  have hF : zfrF 50 (rup (FX_X10_init_46 (rup (FX_X10_init_43 (rup (FX_X10_init_40 (rup (FX_X7_init_39 (rup (FX_X6_init_21 (rup (FX_X6_init_3 (rup (FX_X8_init_1 (F)) 0 0 1)) 0 1 3)) 0 2 21)) 0 3 39)) 0 4 40)) 0 5 43)) 0 6 46) := zfrF_le hF (by decide)
  refine lv_dup C.1 C.2.1 dd_X11_init_105 rfl ?_
  refine en_callN (As := []) (n := 0) C hsz hP hS hl.1 (cn_X3_init_49 l G (MX_X10_init_46 (MX_X10_init_43 (MX_X10_init_40 (MX_X7_init_39 (MX_X6_init_21 (MX_X6_init_3 (MX_X8_init_1 (M)))))))) (rup (FX_X10_init_46 (rup (FX_X10_init_43 (rup (FX_X10_init_40 (rup (FX_X7_init_39 (rup (FX_X6_init_21 (rup (FX_X6_init_3 (rup (FX_X8_init_1 (F)) 0 0 1)) 0 1 3)) 0 2 21)) 0 3 39)) 0 4 40)) 0 5 43)) 0 6 46) hM hF) nm_X3_init rfl rfl (by decide +kernel) nx_X3_init (by decide +kernel) ⟨(Nat.le_of_ble_eq_true rfl), (Nat.le_of_ble_eq_true rfl)⟩ ⟨(Nat.le_of_ble_eq_true rfl), (Nat.le_of_ble_eq_true rfl)⟩ (Nat.le_of_ble_eq_true rfl) rfl dd_X11_init_106 rfl (fun H locs hsz hP hS => ?_)
  have hM : zfrM 56 (MX_X3_init_49 (MX_X10_init_46 (MX_X10_init_43 (MX_X10_init_40 (MX_X7_init_39 (MX_X6_init_21 (MX_X6_init_3 (MX_X8_init_1 (M))))))))) := frM_X3_init_49 hM
  have hF : zfrF 56 (FX_X3_init_49 (rup (FX_X10_init_46 (rup (FX_X10_init_43 (rup (FX_X10_init_40 (rup (FX_X7_init_39 (rup (FX_X6_init_21 (rup (FX_X6_init_3 (rup (FX_X8_init_1 (F)) 0 0 1)) 0 1 3)) 0 2 21)) 0 3 39)) 0 4 40)) 0 5 43)) 0 6 46)) := frF_X3_init_49 hF
  refine en_putR (o := 0) (q := 49) C hnam hsz hP hS gf_RX11_53 (fun q h => by cases h; exact ⟨rfl, rfl⟩) (by decide) (by decide +kernel) (by decide +kernel) rfl rfl dd_X11_init_109 (fun H locs hsz hP hS => ?_)
  have hF : zfrF 56 (rup (FX_X3_init_49 (rup (FX_X10_init_46 (rup (FX_X10_init_43 (rup (FX_X10_init_40 (rup (FX_X7_init_39 (rup (FX_X6_init_21 (rup (FX_X6_init_3 (rup (FX_X8_init_1 (F)) 0 0 1)) 0 1 3)) 0 2 21)) 0 3 39)) 0 4 40)) 0 5 43)) 0 6 46)) 0 7 49) := zfrF_up hF (by decide)
  refine lv_aload_n C.1 C.2.1 dd_X11_init_112 rfl (lv_at hl 0 rfl) ?_
  refine en_new (ci := 3) tyX3 C hsz hP hS hM hF rfl inX_3 tyX3_ok nl_RX11_50 ni_RX3 nn_RX3 (by decide +kernel) (by decide) (by decide +kernel) (df_3 _) (Nat.le_of_ble_eq_true rfl) (Nat.le_of_ble_eq_true rfl) dd_X11_init_113 (fun H hsz hP hS => ?_)
  have hM : zfrM 57 (MX_X3_init_49 (MX_X10_init_46 (MX_X10_init_43 (MX_X10_init_40 (MX_X7_init_39 (MX_X6_init_21 (MX_X6_init_3 (MX_X8_init_1 (M))))))))) := zfrM_le hM (by decide)
  have hF : zfrF 57 (rup (FX_X3_init_49 (rup (FX_X10_init_46 (rup (FX_X10_init_43 (rup (FX_X10_init_40 (rup (FX_X7_init_39 (rup (FX_X6_init_21 (rup (FX_X6_init_3 (rup (FX_X8_init_1 (F)) 0 0 1)) 0 1 3)) 0 2 21)) 0 3 39)) 0 4 40)) 0 5 43)) 0 6 46)) 0 7 49) := zfrF_le hF (by decide)
  refine lv_dup C.1 C.2.1 dd_X11_init_116 rfl ?_
  refine en_callN (As := []) (n := 0) C hsz hP hS hl.1 (cn_X3_init_56 l G (MX_X3_init_49 (MX_X10_init_46 (MX_X10_init_43 (MX_X10_init_40 (MX_X7_init_39 (MX_X6_init_21 (MX_X6_init_3 (MX_X8_init_1 (M))))))))) (rup (FX_X3_init_49 (rup (FX_X10_init_46 (rup (FX_X10_init_43 (rup (FX_X10_init_40 (rup (FX_X7_init_39 (rup (FX_X6_init_21 (rup (FX_X6_init_3 (rup (FX_X8_init_1 (F)) 0 0 1)) 0 1 3)) 0 2 21)) 0 3 39)) 0 4 40)) 0 5 43)) 0 6 46)) 0 7 49) hM hF) nm_X3_init rfl rfl (by decide +kernel) nx_X3_init (by decide +kernel) ⟨(Nat.le_of_ble_eq_true rfl), (Nat.le_of_ble_eq_true rfl)⟩ ⟨(Nat.le_of_ble_eq_true rfl), (Nat.le_of_ble_eq_true rfl)⟩ (Nat.le_of_ble_eq_true rfl) rfl dd_X11_init_117 rfl (fun H locs hsz hP hS => ?_)
  have hM : zfrM 63 (MX_X3_init_56 (MX_X3_init_49 (MX_X10_init_46 (MX_X10_init_43 (MX_X10_init_40 (MX_X7_init_39 (MX_X6_init_21 (MX_X6_init_3 (MX_X8_init_1 (M)))))))))) := frM_X3_init_56 hM
  have hF : zfrF 63 (FX_X3_init_56 (rup (FX_X3_init_49 (rup (FX_X10_init_46 (rup (FX_X10_init_43 (rup (FX_X10_init_40 (rup (FX_X7_init_39 (rup (FX_X6_init_21 (rup (FX_X6_init_3 (rup (FX_X8_init_1 (F)) 0 0 1)) 0 1 3)) 0 2 21)) 0 3 39)) 0 4 40)) 0 5 43)) 0 6 46)) 0 7 49)) := frF_X3_init_56 hF
  refine en_putR (o := 0) (q := 56) C hnam hsz hP hS gf_RX11_57 (fun q h => by cases h; exact ⟨rfl, rfl⟩) (by decide) (by decide +kernel) (by decide +kernel) rfl rfl dd_X11_init_120 (fun H locs hsz hP hS => ?_)
  have hF : zfrF 63 (rup (FX_X3_init_56 (rup (FX_X3_init_49 (rup (FX_X10_init_46 (rup (FX_X10_init_43 (rup (FX_X10_init_40 (rup (FX_X7_init_39 (rup (FX_X6_init_21 (rup (FX_X6_init_3 (rup (FX_X8_init_1 (F)) 0 0 1)) 0 1 3)) 0 2 21)) 0 3 39)) 0 4 40)) 0 5 43)) 0 6 46)) 0 7 49)) 0 8 56) := zfrF_up hF (by decide)
  refine lv_aload_n C.1 C.2.1 dd_X11_init_123 rfl (lv_at hl 0 rfl) ?_
  refine en_new (ci := 1) tyX1 C hsz hP hS hM hF rfl inX_1 tyX1_ok nl_RX11_60 ni_RX1 nn_RX1 (by decide +kernel) (by decide) (by decide +kernel) (df_1 _) (Nat.le_of_ble_eq_true rfl) (Nat.le_of_ble_eq_true rfl) dd_X11_init_124 (fun H hsz hP hS => ?_)
  have hM : zfrM 64 (MX_X3_init_56 (MX_X3_init_49 (MX_X10_init_46 (MX_X10_init_43 (MX_X10_init_40 (MX_X7_init_39 (MX_X6_init_21 (MX_X6_init_3 (MX_X8_init_1 (M)))))))))) := zfrM_le hM (by decide)
  have hF : zfrF 64 (rup (FX_X3_init_56 (rup (FX_X3_init_49 (rup (FX_X10_init_46 (rup (FX_X10_init_43 (rup (FX_X10_init_40 (rup (FX_X7_init_39 (rup (FX_X6_init_21 (rup (FX_X6_init_3 (rup (FX_X8_init_1 (F)) 0 0 1)) 0 1 3)) 0 2 21)) 0 3 39)) 0 4 40)) 0 5 43)) 0 6 46)) 0 7 49)) 0 8 56) := zfrF_le hF (by decide)
  refine lv_dup C.1 C.2.1 dd_X11_init_127 rfl ?_
  refine lv_aload_n C.1 C.2.1 dd_X11_init_128 rfl (lv_at hl 0 rfl) ?_
  refine en_getR (o := 0) (q := 3) C hP gf_RX11_19 (by decide) (by decide +kernel) (by decide +kernel) (by rfl) dd_X11_init_129 ?_
  refine lv_aload_n C.1 C.2.1 dd_X11_init_132 rfl (lv_at hl 0 rfl) ?_
  refine en_getR (o := 0) (q := 40) C hP gf_RX11_40 (by decide) (by decide +kernel) (by decide +kernel) (by rfl) dd_X11_init_133 ?_
  refine en_callI (As := [.ref (G.2.1 + 3), .ref (G.2.1 + 40)]) (n := 2) C hsz hP hS hl.1 (cn_X1_init_63 l G (MX_X3_init_56 (MX_X3_init_49 (MX_X10_init_46 (MX_X10_init_43 (MX_X10_init_40 (MX_X7_init_39 (MX_X6_init_21 (MX_X6_init_3 (MX_X8_init_1 (M)))))))))) (rup (FX_X3_init_56 (rup (FX_X3_init_49 (rup (FX_X10_init_46 (rup (FX_X10_init_43 (rup (FX_X10_init_40 (rup (FX_X7_init_39 (rup (FX_X6_init_21 (rup (FX_X6_init_3 (rup (FX_X8_init_1 (F)) 0 0 1)) 0 1 3)) 0 2 21)) 0 3 39)) 0 4 40)) 0 5 43)) 0 6 46)) 0 7 49)) 0 8 56) hM hF) nm_X1_init rfl rfl nk_RX11_62 nx_X1_init (by decide +kernel) ⟨(Nat.le_of_ble_eq_true rfl), (Nat.le_of_ble_eq_true rfl)⟩ ⟨(Nat.le_of_ble_eq_true rfl), (Nat.le_of_ble_eq_true rfl)⟩ (Nat.le_of_ble_eq_true rfl) rfl dd_X11_init_136 rfl (fun H locs hsz hP hS => ?_)
  have hM : zfrM 67 (MX_X1_init_63 (MX_X3_init_56 (MX_X3_init_49 (MX_X10_init_46 (MX_X10_init_43 (MX_X10_init_40 (MX_X7_init_39 (MX_X6_init_21 (MX_X6_init_3 (MX_X8_init_1 (M))))))))))) := frM_X1_init_63 hM
  have hF : zfrF 67 (FX_X1_init_63 (rup (FX_X3_init_56 (rup (FX_X3_init_49 (rup (FX_X10_init_46 (rup (FX_X10_init_43 (rup (FX_X10_init_40 (rup (FX_X7_init_39 (rup (FX_X6_init_21 (rup (FX_X6_init_3 (rup (FX_X8_init_1 (F)) 0 0 1)) 0 1 3)) 0 2 21)) 0 3 39)) 0 4 40)) 0 5 43)) 0 6 46)) 0 7 49)) 0 8 56)) := frF_X1_init_63 hF
  refine en_putR (o := 0) (q := 63) C hnam hsz hP hS gf_RX11_65 (fun q h => by cases h; exact ⟨rfl, rfl⟩) (by decide) (by decide +kernel) (by decide +kernel) rfl rfl dd_X11_init_139 (fun H locs hsz hP hS => ?_)
  have hF : zfrF 67 (rup (FX_X1_init_63 (rup (FX_X3_init_56 (rup (FX_X3_init_49 (rup (FX_X10_init_46 (rup (FX_X10_init_43 (rup (FX_X10_init_40 (rup (FX_X7_init_39 (rup (FX_X6_init_21 (rup (FX_X6_init_3 (rup (FX_X8_init_1 (F)) 0 0 1)) 0 1 3)) 0 2 21)) 0 3 39)) 0 4 40)) 0 5 43)) 0 6 46)) 0 7 49)) 0 8 56)) 0 9 63) := zfrF_up hF (by decide)
  refine lv_aload_n C.1 C.2.1 dd_X11_init_142 rfl (lv_at hl 0 rfl) ?_
  refine en_new (ci := 2) tyX2 C hsz hP hS hM hF rfl inX_2 tyX2_ok nl_RX11_69 ni_RX2 nn_RX2 (by decide +kernel) (by decide) (by decide +kernel) (df_2 _) (Nat.le_of_ble_eq_true rfl) (Nat.le_of_ble_eq_true rfl) dd_X11_init_143 (fun H hsz hP hS => ?_)
  have hM : zfrM 68 (MX_X1_init_63 (MX_X3_init_56 (MX_X3_init_49 (MX_X10_init_46 (MX_X10_init_43 (MX_X10_init_40 (MX_X7_init_39 (MX_X6_init_21 (MX_X6_init_3 (MX_X8_init_1 (M))))))))))) := zfrM_le hM (by decide)
  have hF : zfrF 68 (rup (FX_X1_init_63 (rup (FX_X3_init_56 (rup (FX_X3_init_49 (rup (FX_X10_init_46 (rup (FX_X10_init_43 (rup (FX_X10_init_40 (rup (FX_X7_init_39 (rup (FX_X6_init_21 (rup (FX_X6_init_3 (rup (FX_X8_init_1 (F)) 0 0 1)) 0 1 3)) 0 2 21)) 0 3 39)) 0 4 40)) 0 5 43)) 0 6 46)) 0 7 49)) 0 8 56)) 0 9 63) := zfrF_le hF (by decide)
  refine lv_dup C.1 C.2.1 dd_X11_init_146 rfl ?_
  refine lv_aload_n C.1 C.2.1 dd_X11_init_147 rfl (lv_at hl 0 rfl) ?_
  refine en_getR (o := 0) (q := 40) C hP gf_RX11_40 (by decide) (by decide +kernel) (by decide +kernel) (by rfl) dd_X11_init_148 ?_
  refine en_callI (As := [.ref (G.2.1 + 40)]) (n := 1) C hsz hP hS hl.1 (cn_X2_init_67 l G (MX_X1_init_63 (MX_X3_init_56 (MX_X3_init_49 (MX_X10_init_46 (MX_X10_init_43 (MX_X10_init_40 (MX_X7_init_39 (MX_X6_init_21 (MX_X6_init_3 (MX_X8_init_1 (M))))))))))) (rup (FX_X1_init_63 (rup (FX_X3_init_56 (rup (FX_X3_init_49 (rup (FX_X10_init_46 (rup (FX_X10_init_43 (rup (FX_X10_init_40 (rup (FX_X7_init_39 (rup (FX_X6_init_21 (rup (FX_X6_init_3 (rup (FX_X8_init_1 (F)) 0 0 1)) 0 1 3)) 0 2 21)) 0 3 39)) 0 4 40)) 0 5 43)) 0 6 46)) 0 7 49)) 0 8 56)) 0 9 63) hM hF) nm_X2_init rfl rfl nk_RX11_71 nx_X2_init (by decide +kernel) ⟨(Nat.le_of_ble_eq_true rfl), (Nat.le_of_ble_eq_true rfl)⟩ ⟨(Nat.le_of_ble_eq_true rfl), (Nat.le_of_ble_eq_true rfl)⟩ (Nat.le_of_ble_eq_true rfl) rfl dd_X11_init_151 rfl (fun H locs hsz hP hS => ?_)
  have hM : zfrM 69 (MX_X2_init_67 (MX_X1_init_63 (MX_X3_init_56 (MX_X3_init_49 (MX_X10_init_46 (MX_X10_init_43 (MX_X10_init_40 (MX_X7_init_39 (MX_X6_init_21 (MX_X6_init_3 (MX_X8_init_1 (M)))))))))))) := frM_X2_init_67 hM
  have hF : zfrF 69 (FX_X2_init_67 (rup (FX_X1_init_63 (rup (FX_X3_init_56 (rup (FX_X3_init_49 (rup (FX_X10_init_46 (rup (FX_X10_init_43 (rup (FX_X10_init_40 (rup (FX_X7_init_39 (rup (FX_X6_init_21 (rup (FX_X6_init_3 (rup (FX_X8_init_1 (F)) 0 0 1)) 0 1 3)) 0 2 21)) 0 3 39)) 0 4 40)) 0 5 43)) 0 6 46)) 0 7 49)) 0 8 56)) 0 9 63)) := frF_X2_init_67 hF
  refine en_putR (o := 0) (q := 67) C hnam hsz hP hS gf_RX11_74 (fun q h => by cases h; exact ⟨rfl, rfl⟩) (by decide) (by decide +kernel) (by decide +kernel) rfl rfl dd_X11_init_154 (fun H locs hsz hP hS => ?_)
  have hF : zfrF 69 (rup (FX_X2_init_67 (rup (FX_X1_init_63 (rup (FX_X3_init_56 (rup (FX_X3_init_49 (rup (FX_X10_init_46 (rup (FX_X10_init_43 (rup (FX_X10_init_40 (rup (FX_X7_init_39 (rup (FX_X6_init_21 (rup (FX_X6_init_3 (rup (FX_X8_init_1 (F)) 0 0 1)) 0 1 3)) 0 2 21)) 0 3 39)) 0 4 40)) 0 5 43)) 0 6 46)) 0 7 49)) 0 8 56)) 0 9 63)) 0 10 67) := zfrF_up hF (by decide)
  refine lv_aload_n C.1 C.2.1 dd_X11_init_157 rfl (lv_at hl 0 rfl) ?_
  refine en_new (ci := 4) tyX4 C hsz hP hS hM hF rfl inX_4 tyX4_ok nl_RX11_78 ni_RX4 nn_RX4 (by decide +kernel) (by decide) (by decide +kernel) (df_4 _) (Nat.le_of_ble_eq_true rfl) (Nat.le_of_ble_eq_true rfl) dd_X11_init_158 (fun H hsz hP hS => ?_)
  have hM : zfrM 70 (MX_X2_init_67 (MX_X1_init_63 (MX_X3_init_56 (MX_X3_init_49 (MX_X10_init_46 (MX_X10_init_43 (MX_X10_init_40 (MX_X7_init_39 (MX_X6_init_21 (MX_X6_init_3 (MX_X8_init_1 (M)))))))))))) := zfrM_le hM (by decide)
  have hF : zfrF 70 (rup (FX_X2_init_67 (rup (FX_X1_init_63 (rup (FX_X3_init_56 (rup (FX_X3_init_49 (rup (FX_X10_init_46 (rup (FX_X10_init_43 (rup (FX_X10_init_40 (rup (FX_X7_init_39 (rup (FX_X6_init_21 (rup (FX_X6_init_3 (rup (FX_X8_init_1 (F)) 0 0 1)) 0 1 3)) 0 2 21)) 0 3 39)) 0 4 40)) 0 5 43)) 0 6 46)) 0 7 49)) 0 8 56)) 0 9 63)) 0 10 67) := zfrF_le hF (by decide)
  refine lv_dup C.1 C.2.1 dd_X11_init_161 rfl ?_
  refine lv_aload_n C.1 C.2.1 dd_X11_init_162 rfl (lv_at hl 0 rfl) ?_
  refine en_getR (o := 0) (q := 40) C hP gf_RX11_40 (by decide) (by decide +kernel) (by decide +kernel) (by rfl) dd_X11_init_163 ?_
  refine lv_aload_n C.1 C.2.1 dd_X11_init_166 rfl (lv_at hl 0 rfl) ?_
  refine en_getR (o := 0) (q := 67) C hP gf_RX11_74 (by decide) (by decide +kernel) (by decide +kernel) (by rfl) dd_X11_init_167 ?_
  refine en_callI (As := [.ref (G.2.1 + 40), .ref (G.2.1 + 67)]) (n := 2) C hsz hP hS hl.1 (cn_X4_init_69 l G (MX_X2_init_67 (MX_X1_init_63 (MX_X3_init_56 (MX_X3_init_49 (MX_X10_init_46 (MX_X10_init_43 (MX_X10_init_40 (MX_X7_init_39 (MX_X6_init_21 (MX_X6_init_3 (MX_X8_init_1 (M)))))))))))) (rup (FX_X2_init_67 (rup (FX_X1_init_63 (rup (FX_X3_init_56 (rup (FX_X3_init_49 (rup (FX_X10_init_46 (rup (FX_X10_init_43 (rup (FX_X10_init_40 (rup (FX_X7_init_39 (rup (FX_X6_init_21 (rup (FX_X6_init_3 (rup (FX_X8_init_1 (F)) 0 0 1)) 0 1 3)) 0 2 21)) 0 3 39)) 0 4 40)) 0 5 43)) 0 6 46)) 0 7 49)) 0 8 56)) 0 9 63)) 0 10 67) hM hF) nm_X4_init rfl rfl nk_RX11_80 nx_X4_init (by decide +kernel) ⟨(Nat.le_of_ble_eq_true rfl), (Nat.le_of_ble_eq_true rfl)⟩ ⟨(Nat.le_of_ble_eq_true rfl), (Nat.le_of_ble_eq_true rfl)⟩ (Nat.le_of_ble_eq_true rfl) rfl dd_X11_init_170 rfl (fun H locs hsz hP hS => ?_)
  have hM : zfrM 73 (MX_X4_init_69 (MX_X2_init_67 (MX_X1_init_63 (MX_X3_init_56 (MX_X3_init_49 (MX_X10_init_46 (MX_X10_init_43 (MX_X10_init_40 (MX_X7_init_39 (MX_X6_init_21 (MX_X6_init_3 (MX_X8_init_1 (M))))))))))))) := frM_X4_init_69 hM
  have hF : zfrF 73 (FX_X4_init_69 (rup (FX_X2_init_67 (rup (FX_X1_init_63 (rup (FX_X3_init_56 (rup (FX_X3_init_49 (rup (FX_X10_init_46 (rup (FX_X10_init_43 (rup (FX_X10_init_40 (rup (FX_X7_init_39 (rup (FX_X6_init_21 (rup (FX_X6_init_3 (rup (FX_X8_init_1 (F)) 0 0 1)) 0 1 3)) 0 2 21)) 0 3 39)) 0 4 40)) 0 5 43)) 0 6 46)) 0 7 49)) 0 8 56)) 0 9 63)) 0 10 67)) := frF_X4_init_69 hF
  refine en_putR (o := 0) (q := 69) C hnam hsz hP hS gf_RX11_83 (fun q h => by cases h; exact ⟨rfl, rfl⟩) (by decide) (by decide +kernel) (by decide +kernel) rfl rfl dd_X11_init_173 (fun H locs hsz hP hS => ?_)
  have hF : zfrF 73 (rup (FX_X4_init_69 (rup (FX_X2_init_67 (rup (FX_X1_init_63 (rup (FX_X3_init_56 (rup (FX_X3_init_49 (rup (FX_X10_init_46 (rup (FX_X10_init_43 (rup (FX_X10_init_40 (rup (FX_X7_init_39 (rup (FX_X6_init_21 (rup (FX_X6_init_3 (rup (FX_X8_init_1 (F)) 0 0 1)) 0 1 3)) 0 2 21)) 0 3 39)) 0 4 40)) 0 5 43)) 0 6 46)) 0 7 49)) 0 8 56)) 0 9 63)) 0 10 67)) 0 11 69) := zfrF_up hF (by decide)
  refine lv_aload_n C.1 C.2.1 dd_X11_init_176 rfl (lv_at hl 0 rfl) ?_
  refine en_new (ci := 5) tyX5 C hsz hP hS hM hF rfl inX_5 tyX5_ok nl_RX11_87 ni_RX5 nn_RX5 (by decide +kernel) (by decide) (by decide +kernel) (df_5 _) (Nat.le_of_ble_eq_true rfl) (Nat.le_of_ble_eq_true rfl) dd_X11_init_177 (fun H hsz hP hS => ?_)
  have hM : zfrM 74 (MX_X4_init_69 (MX_X2_init_67 (MX_X1_init_63 (MX_X3_init_56 (MX_X3_init_49 (MX_X10_init_46 (MX_X10_init_43 (MX_X10_init_40 (MX_X7_init_39 (MX_X6_init_21 (MX_X6_init_3 (MX_X8_init_1 (M))))))))))))) := zfrM_le hM (by decide)
  have hF : zfrF 74 (rup (FX_X4_init_69 (rup (FX_X2_init_67 (rup (FX_X1_init_63 (rup (FX_X3_init_56 (rup (FX_X3_init_49 (rup (FX_X10_init_46 (rup (FX_X10_init_43 (rup (FX_X10_init_40 (rup (FX_X7_init_39 (rup (FX_X6_init_21 (rup (FX_X6_init_3 (rup (FX_X8_init_1 (F)) 0 0 1)) 0 1 3)) 0 2 21)) 0 3 39)) 0 4 40)) 0 5 43)) 0 6 46)) 0 7 49)) 0 8 56)) 0 9 63)) 0 10 67)) 0 11 69) := zfrF_le hF (by decide)
  refine lv_dup C.1 C.2.1 dd_X11_init_180 rfl ?_
  refine lv_aload_n C.1 C.2.1 dd_X11_init_181 rfl (lv_at hl 0 rfl) ?_
  refine en_getR (o := 0) (q := 40) C hP gf_RX11_40 (by decide) (by decide +kernel) (by decide +kernel) (by rfl) dd_X11_init_182 ?_
  refine lv_aload_n C.1 C.2.1 dd_X11_init_185 rfl (lv_at hl 0 rfl) ?_
  refine en_getR (o := 0) (q := 67) C hP gf_RX11_74 (by decide) (by decide +kernel) (by decide +kernel) (by rfl) dd_X11_init_186 ?_
  refine lv_aload_n C.1 C.2.1 dd_X11_init_189 rfl (lv_at hl 0 rfl) ?_
  refine en_getR (o := 0) (q := 49) C hP gf_RX11_53 (by decide) (by decide +kernel) (by decide +kernel) (by rfl) dd_X11_init_190 ?_
  refine en_callI (As := [.ref (G.2.1 + 40), .ref (G.2.1 + 67), .ref (G.2.1 + 49)]) (n := 3) C hsz hP hS hl.1 (cn_X5_init_73 l G (MX_X4_init_69 (MX_X2_init_67 (MX_X1_init_63 (MX_X3_init_56 (MX_X3_init_49 (MX_X10_init_46 (MX_X10_init_43 (MX_X10_init_40 (MX_X7_init_39 (MX_X6_init_21 (MX_X6_init_3 (MX_X8_init_1 (M))))))))))))) (rup (FX_X4_init_69 (rup (FX_X2_init_67 (rup (FX_X1_init_63 (rup (FX_X3_init_56 (rup (FX_X3_init_49 (rup (FX_X10_init_46 (rup (FX_X10_init_43 (rup (FX_X10_init_40 (rup (FX_X7_init_39 (rup (FX_X6_init_21 (rup (FX_X6_init_3 (rup (FX_X8_init_1 (F)) 0 0 1)) 0 1 3)) 0 2 21)) 0 3 39)) 0 4 40)) 0 5 43)) 0 6 46)) 0 7 49)) 0 8 56)) 0 9 63)) 0 10 67)) 0 11 69) hM hF) nm_X5_init rfl rfl nk_RX11_89 nx_X5_init (by decide +kernel) ⟨(Nat.le_of_ble_eq_true rfl), (Nat.le_of_ble_eq_true rfl)⟩ ⟨(Nat.le_of_ble_eq_true rfl), (Nat.le_of_ble_eq_true rfl)⟩ (Nat.le_of_ble_eq_true rfl) rfl dd_X11_init_193 rfl (fun H locs hsz hP hS => ?_)
  have hM : zfrM 78 (MX_X5_init_73 (MX_X4_init_69 (MX_X2_init_67 (MX_X1_init_63 (MX_X3_init_56 (MX_X3_init_49 (MX_X10_init_46 (MX_X10_init_43 (MX_X10_init_40 (MX_X7_init_39 (MX_X6_init_21 (MX_X6_init_3 (MX_X8_init_1 (M)))))))))))))) := frM_X5_init_73 hM
  have hF : zfrF 78 (FX_X5_init_73 (rup (FX_X4_init_69 (rup (FX_X2_init_67 (rup (FX_X1_init_63 (rup (FX_X3_init_56 (rup (FX_X3_init_49 (rup (FX_X10_init_46 (rup (FX_X10_init_43 (rup (FX_X10_init_40 (rup (FX_X7_init_39 (rup (FX_X6_init_21 (rup (FX_X6_init_3 (rup (FX_X8_init_1 (F)) 0 0 1)) 0 1 3)) 0 2 21)) 0 3 39)) 0 4 40)) 0 5 43)) 0 6 46)) 0 7 49)) 0 8 56)) 0 9 63)) 0 10 67)) 0 11 69)) := frF_X5_init_73 hF
  refine en_putR (o := 0) (q := 73) C hnam hsz hP hS gf_RX11_92 (fun q h => by cases h; exact ⟨rfl, rfl⟩) (by decide) (by decide +kernel) (by decide +kernel) rfl rfl dd_X11_init_196 (fun H locs hsz hP hS => ?_)
  have hF : zfrF 78 (rup (FX_X5_init_73 (rup (FX_X4_init_69 (rup (FX_X2_init_67 (rup (FX_X1_init_63 (rup (FX_X3_init_56 (rup (FX_X3_init_49 (rup (FX_X10_init_46 (rup (FX_X10_init_43 (rup (FX_X10_init_40 (rup (FX_X7_init_39 (rup (FX_X6_init_21 (rup (FX_X6_init_3 (rup (FX_X8_init_1 (F)) 0 0 1)) 0 1 3)) 0 2 21)) 0 3 39)) 0 4 40)) 0 5 43)) 0 6 46)) 0 7 49)) 0 8 56)) 0 9 63)) 0 10 67)) 0 11 69)) 0 12 73) := zfrF_up hF (by decide)
  refine lv_aload_n C.1 C.2.1 dd_X11_init_199 rfl (lv_at hl 0 rfl) ?_
  refine lv_iconst (v := 3) C.1 C.2.1 dd_X11_init_200 (by decide) ?_
  refine en_newa (sh := 20) (N := 3) (ty := .int) (atype := .int) C hsz hP hS hM rfl na_int (by decide +kernel) (by decide +kernel) (by decide) rfl ⟨0, rfl⟩ (fun h => h) (fun _ => rfl) (by decide) (by decide) (Nat.le_of_ble_eq_true rfl) (Nat.le_of_ble_eq_true rfl) (Nat.le_of_ble_eq_true rfl) dd_X11_init_201 (fun H hsz hP hS => ?_)
  have hM : zfrM 79 (MX_X5_init_73 (MX_X4_init_69 (MX_X2_init_67 (MX_X1_init_63 (MX_X3_init_56 (MX_X3_init_49 (MX_X10_init_46 (MX_X10_init_43 (MX_X10_init_40 (MX_X7_init_39 (MX_X6_init_21 (MX_X6_init_3 (MX_X8_init_1 (M)))))))))))))) := zfrM_le hM (by decide)
  have hF : zfrF 79 (rup (FX_X5_init_73 (rup (FX_X4_init_69 (rup (FX_X2_init_67 (rup (FX_X1_init_63 (rup (FX_X3_init_56 (rup (FX_X3_init_49 (rup (FX_X10_init_46 (rup (FX_X10_init_43 (rup (FX_X10_init_40 (rup (FX_X7_init_39 (rup (FX_X6_init_21 (rup (FX_X6_init_3 (rup (FX_X8_init_1 (F)) 0 0 1)) 0 1 3)) 0 2 21)) 0 3 39)) 0 4 40)) 0 5 43)) 0 6 46)) 0 7 49)) 0 8 56)) 0 9 63)) 0 10 67)) 0 11 69)) 0 12 73) := zfrF_le hF (by decide)
  refine en_putR (o := 0) (q := 78) C hnam hsz hP hS gf_RX11_96 (fun q h => by cases h; exact ⟨rfl, rfl⟩) (by decide) (by decide +kernel) (by decide +kernel) rfl rfl dd_X11_init_203 (fun H locs hsz hP hS => ?_)
  have hF : zfrF 79 (rup (rup (FX_X5_init_73 (rup (FX_X4_init_69 (rup (FX_X2_init_67 (rup (FX_X1_init_63 (rup (FX_X3_init_56 (rup (FX_X3_init_49 (rup (FX_X10_init_46 (rup (FX_X10_init_43 (rup (FX_X10_init_40 (rup (FX_X7_init_39 (rup (FX_X6_init_21 (rup (FX_X6_init_3 (rup (FX_X8_init_1 (F)) 0 0 1)) 0 1 3)) 0 2 21)) 0 3 39)) 0 4 40)) 0 5 43)) 0 6 46)) 0 7 49)) 0 8 56)) 0 9 63)) 0 10 67)) 0 11 69)) 0 12 73) 0 13 78) := zfrF_up hF (by decide)
  refine lv_aload_n C.1 C.2.1 dd_X11_init_206 rfl (lv_at hl 0 rfl) ?_
  refine lv_iconst (v := 0) C.1 C.2.1 dd_X11_init_207 (by decide) ?_
  refine en_putI (o := 0) (v := 0) C hsz hP hS gw_RX11_100 (by decide) (by decide +kernel) (by decide +kernel) (by decide) (by decide) dd_X11_init_208 (fun H locs hsz hP hS => ?_)
  have hM : zfrM 79 (zup (MX_X5_init_73 (MX_X4_init_69 (MX_X2_init_67 (MX_X1_init_63 (MX_X3_init_56 (MX_X3_init_49 (MX_X10_init_46 (MX_X10_init_43 (MX_X10_init_40 (MX_X7_init_39 (MX_X6_init_21 (MX_X6_init_3 (MX_X8_init_1 (M)))))))))))))) 0 14 0) := zfrM_up hM (by decide)
  refine lv_aload_n C.1 C.2.1 dd_X11_init_211 rfl (lv_at hl 0 rfl) ?_
  refine lv_iconst (v := 0) C.1 C.2.1 dd_X11_init_212 (by decide) ?_
  refine en_putI (o := 0) (v := 0) C hsz hP hS gw_RX11_104 (by decide) (by decide +kernel) (by decide +kernel) (by decide) (by decide) dd_X11_init_213 (fun H locs hsz hP hS => ?_)
  have hM : zfrM 79 (zup (zup (MX_X5_init_73 (MX_X4_init_69 (MX_X2_init_67 (MX_X1_init_63 (MX_X3_init_56 (MX_X3_init_49 (MX_X10_init_46 (MX_X10_init_43 (MX_X10_init_40 (MX_X7_init_39 (MX_X6_init_21 (MX_X6_init_3 (MX_X8_init_1 (M)))))))))))))) 0 14 0) 0 15 0) := zfrM_up hM (by decide)
  exact en_ret C rfl dd_X11_init_216 hsz hP hS rfl rfl rfl
def MX_X12_init_79 (M : zM) : zM := zup (zup (zup (M) 79 3 3) 79 4 (-1)) 79 17 (-1)
def FX_X12_init_79 (F : zF2) : zF2 := rup (rup (rup (rup (rup (rup (rup (rup (rup (rup (rup (rup (rup (rup (rup (rup (rup (rup (rup (rup (rup (rup (rup (rup (rup (rup (rup (rup (rup (rup (rup (rup (rup (rup (rup (rup (rup (rup (rup (rup (rup (rup (rup (rup (F) 79 5 80) 79 6 81) 79 7 82) 79 8 83) 79 9 84) 79 10 85) 79 11 86) 79 12 87) 79 13 88) 79 14 89) 79 18 90) 79 36 91) 79 37 92) 79 38 93) 79 39 94) 79 40 95) 79 41 96) 79 42 97) 79 43 98) 79 44 99) 79 45 100) 79 46 101) 79 47 102) 79 48 103) 79 49 104) 79 51 105) 79 52 106) 79 53 107) 79 54 108) 79 55 109) 79 56 110) 79 57 111) 79 58 112) 79 59 113) 79 61 114) 79 62 115) 79 65 116) 79 66 117) 79 67 118) 79 68 119) 79 69 120) 79 76 121) 79 77 122) 79 78 123
theorem frM_X12_init_79 {M : zM} (h : zfrM 80 M) : zfrM 124 (MX_X12_init_79 M) := (zfrM_up (zfrM_up (zfrM_up (zfrM_le h (by decide) : zfrM 124 M) (by decide)) (by decide)) (by decide))
theorem frF_X12_init_79 {F : zF2} (h : zfrF 80 F) : zfrF 124 (FX_X12_init_79 F) := (zfrF_up (zfrF_up (zfrF_up (zfrF_up (zfrF_up (zfrF_up (zfrF_up (zfrF_up (zfrF_up (zfrF_up (zfrF_up (zfrF_up (zfrF_up (zfrF_up (zfrF_up (zfrF_up (zfrF_up (zfrF_up (zfrF_up (zfrF_up (zfrF_up (zfrF_up (zfrF_up (zfrF_up (zfrF_up (zfrF_up (zfrF_up (zfrF_up (zfrF_up (zfrF_up (zfrF_up (zfrF_up (zfrF_up (zfrF_up (zfrF_up (zfrF_up (zfrF_up (zfrF_up (zfrF_up (zfrF_up (zfrF_up (zfrF_up (zfrF_up (zfrF_up (zfrF_le h (by decide) : zfrF 124 F) (by decide)) (by decide)) (by decide)) (by decide)) (by decide)) (by decide)) (by decide)) (by decide)) (by decide)) (by decide)) (by decide)) (by decide)) (by decide)) (by decide)) (by decide)) (by decide)) (by decide)) (by decide)) (by decide)) (by decide)) (by decide)) (by decide)) (by decide)) (by decide)) (by decide)) (by decide)) (by decide)) (by decide)) (by decide)) (by decide)) (by decide)) (by decide)) (by decide)) (by decide)) (by decide)) (by decide)) (by decide)) (by decide)) (by decide)) (by decide)) (by decide)) (by decide)) (by decide)) (by decide))
set_option maxHeartbeats 2000000 in
set_option maxRecDepth 50000 in
theorem cn_X12_init_79 (l : Launch) (G : zG) (M : zM) (F : zF2) (hM : zfrM 80 M) (hF : zfrF 80 F) : zMn l G Y_X12_init 1 44 16194 [.ref (G.2.1 + 79)] 80 M F 124 (MX_X12_init_79 M) (FX_X12_init_79 F) := by
  refine zMn_of (by decide +kernel) rfl (Nat.le_of_ble_eq_true rfl) ?_
  intro p e s m args below meth c ls C hnam hsz hP hl
  have hS : va_S (zA G) s.heap s.heap [] := va_S.rf
  have hl : lv_has ls 1 [(0, .ref (G.2.1 + 79))] := hl
  refine lv_aload_n C.1 C.2.1 dd_X12_init_0 rfl (lv_at hl 0 rfl) ?_
  refine en_obj C no_RX12_1 no_i no_c (hl.1.trans C.2.2.2.1.symm) (Nat.le_of_ble_eq_true rfl) (Nat.le_of_ble_eq_true rfl) (Nat.le_of_ble_eq_true rfl) dd_X12_init_1 ?_
  refine lv_aload_n C.1 C.2.1 dd_X12_init_4 rfl (lv_at hl 0 rfl) ?_
  refine lv_iconst (v := 3) C.1 C.2.1 dd_X12_init_5 (by decide) ?_
  refine en_putI (o := 79) (v := 3) C hsz hP hS gw_RX12_7 (by decide) (by decide +kernel) (by decide +kernel) (by decide) (by decide) dd_X12_init_6 (fun H locs hsz hP hS => ?_)
  have hM : zfrM 80 (zup (M) 79 3 3) := zfrM_up hM (by decide)
  refine lv_aload_n C.1 C.2.1 dd_X12_init_9 rfl (lv_at hl 0 rfl) ?_
  refine lv_iconst (v := (-1)) C.1 C.2.1 dd_X12_init_10 (by decide) ?_
  refine en_putI (o := 79) (v := (-1)) C hsz hP hS gw_RX12_13 (by decide) (by decide +kernel) (by decide +kernel) (by decide) (by decide) dd_X12_init_11 (fun H locs hsz hP hS => ?_)
  have hM : zfrM 80 (zup (zup (M) 79 3 3) 79 4 (-1)) := zfrM_up hM (by decide)
  refine lv_aload_n C.1 C.2.1 dd_X12_init_14 rfl (lv_at hl 0 rfl) ?_
  refine lv_bipush (v := 72) C.1 C.2.1 dd_X12_init_15 (by decide) ?_
  refine en_newa (sh := 20) (N := 72) (ty := .int) (atype := .int) C hsz hP hS hM rfl na_int (by decide +kernel) (by decide +kernel) (by decide) rfl ⟨0, rfl⟩ (fun h => h) (fun _ => rfl) (by decide) (by decide) (Nat.le_of_ble_eq_true rfl) (Nat.le_of_ble_eq_true rfl) (Nat.le_of_ble_eq_true rfl) dd_X12_init_17 (fun H hsz hP hS => ?_)
  have hM : zfrM 81 (zup (zup (M) 79 3 3) 79 4 (-1)) := zfrM_le hM (by decide)
  have hF : zfrF 81 (F) := zfrF_le hF (by decide)
  refine en_putR (o := 79) (q := 80) C hnam hsz hP hS gf_RX12_16 (fun q h => by cases h; exact ⟨rfl, rfl⟩) (by decide) (by decide +kernel) (by decide +kernel) rfl rfl dd_X12_init_19 (fun H locs hsz hP hS => ?_)
  have hF : zfrF 81 (rup (F) 79 5 80) := zfrF_up hF (by decide)
  refine lv_aload_n C.1 C.2.1 dd_X12_init_22 rfl (lv_at hl 0 rfl) ?_
  refine lv_bipush (v := 8) C.1 C.2.1 dd_X12_init_23 (by decide) ?_
  refine en_newa (sh := 20) (N := 8) (ty := .int) (atype := .int) C hsz hP hS hM rfl na_int (by decide +kernel) (by decide +kernel) (by decide) rfl ⟨0, rfl⟩ (fun h => h) (fun _ => rfl) (by decide) (by decide) (Nat.le_of_ble_eq_true rfl) (Nat.le_of_ble_eq_true rfl) (Nat.le_of_ble_eq_true rfl) dd_X12_init_25 (fun H hsz hP hS => ?_)
  have hM : zfrM 82 (zup (zup (M) 79 3 3) 79 4 (-1)) := zfrM_le hM (by decide)
  have hF : zfrF 82 (rup (F) 79 5 80) := zfrF_le hF (by decide)
  refine en_putR (o := 79) (q := 81) C hnam hsz hP hS gf_RX12_20 (fun q h => by cases h; exact ⟨rfl, rfl⟩) (by decide) (by decide +kernel) (by decide +kernel) rfl rfl dd_X12_init_27 (fun H locs hsz hP hS => ?_)
  have hF : zfrF 82 (rup (rup (F) 79 5 80) 79 6 81) := zfrF_up hF (by decide)
  refine lv_aload_n C.1 C.2.1 dd_X12_init_30 rfl (lv_at hl 0 rfl) ?_
  refine lv_bipush (v := 8) C.1 C.2.1 dd_X12_init_31 (by decide) ?_
  refine en_newa (sh := 20) (N := 8) (ty := .int) (atype := .int) C hsz hP hS hM rfl na_int (by decide +kernel) (by decide +kernel) (by decide) rfl ⟨0, rfl⟩ (fun h => h) (fun _ => rfl) (by decide) (by decide) (Nat.le_of_ble_eq_true rfl) (Nat.le_of_ble_eq_true rfl) (Nat.le_of_ble_eq_true rfl) dd_X12_init_33 (fun H hsz hP hS => ?_)
  have hM : zfrM 83 (zup (zup (M) 79 3 3) 79 4 (-1)) := zfrM_le hM (by decide)
  have hF : zfrF 83 (rup (rup (F) 79 5 80) 79 6 81) := zfrF_le hF (by decide)
  refine en_putR (o := 79) (q := 82) C hnam hsz hP hS gf_RX12_23 (fun q h => by cases h; exact ⟨rfl, rfl⟩) (by decide) (by decide +kernel) (by decide +kernel) rfl rfl dd_X12_init_35 (fun H locs hsz hP hS => ?_)
  have hF : zfrF 83 (rup (rup (rup (F) 79 5 80) 79 6 81) 79 7 82) := zfrF_up hF (by decide)
  refine lv_aload_n C.1 C.2.1 dd_X12_init_38 rfl (lv_at hl 0 rfl) ?_
  refine lv_bipush (v := 8) C.1 C.2.1 dd_X12_init_39 (by decide) ?_
  refine en_newa (sh := 20) (N := 8) (ty := .int) (atype := .int) C hsz hP hS hM rfl na_int (by decide +kernel) (by decide +kernel) (by decide) rfl ⟨0, rfl⟩ (fun h => h) (fun _ => rfl) (by decide) (by decide) (Nat.le_of_ble_eq_true rfl) (Nat.le_of_ble_eq_true rfl) (Nat.le_of_ble_eq_true rfl) dd_X12_init_41 (fun H hsz hP hS => ?_)
  have hM : zfrM 84 (zup (zup (M) 79 3 3) 79 4 (-1)) := zfrM_le hM (by decide)
  have hF : zfrF 84 (rup (rup (rup (F) 79 5 80) 79 6 81) 79 7 82) := zfrF_le hF (by decide)
  refine en_putR (o := 79) (q := 83) C hnam hsz hP hS gf_RX12_26 (fun q h => by cases h; exact ⟨rfl, rfl⟩) (by decide) (by decide +kernel) (by decide +kernel) rfl rfl dd_X12_init_43 (fun H locs hsz hP hS => ?_)
  have hF : zfrF 84 (rup (rup (rup (rup (F) 79 5 80) 79 6 81) 79 7 82) 79 8 83) := zfrF_up hF (by decide)
  refine lv_aload_n C.1 C.2.1 dd_X12_init_46 rfl (lv_at hl 0 rfl) ?_
  refine lv_bipush (v := 8) C.1 C.2.1 dd_X12_init_47 (by decide) ?_
  refine en_newa (sh := 20) (N := 8) (ty := .int) (atype := .int) C hsz hP hS hM rfl na_int (by decide +kernel) (by decide +kernel) (by decide) rfl ⟨0, rfl⟩ (fun h => h) (fun _ => rfl) (by decide) (by decide) (Nat.le_of_ble_eq_true rfl) (Nat.le_of_ble_eq_true rfl) (Nat.le_of_ble_eq_true rfl) dd_X12_init_49 (fun H hsz hP hS => ?_)
  have hM : zfrM 85 (zup (zup (M) 79 3 3) 79 4 (-1)) := zfrM_le hM (by decide)
  have hF : zfrF 85 (rup (rup (rup (rup (F) 79 5 80) 79 6 81) 79 7 82) 79 8 83) := zfrF_le hF (by decide)
  refine en_putR (o := 79) (q := 84) C hnam hsz hP hS gf_RX12_29 (fun q h => by cases h; exact ⟨rfl, rfl⟩) (by decide) (by decide +kernel) (by decide +kernel) rfl rfl dd_X12_init_51 (fun H locs hsz hP hS => ?_)
  have hF : zfrF 85 (rup (rup (rup (rup (rup (F) 79 5 80) 79 6 81) 79 7 82) 79 8 83) 79 9 84) := zfrF_up hF (by decide)
  refine lv_aload_n C.1 C.2.1 dd_X12_init_54 rfl (lv_at hl 0 rfl) ?_
  refine lv_bipush (v := 64) C.1 C.2.1 dd_X12_init_55 (by decide) ?_
  refine en_newa (sh := 20) (N := 64) (ty := .int) (atype := .int) C hsz hP hS hM rfl na_int (by decide +kernel) (by decide +kernel) (by decide) rfl ⟨0, rfl⟩ (fun h => h) (fun _ => rfl) (by decide) (by decide) (Nat.le_of_ble_eq_true rfl) (Nat.le_of_ble_eq_true rfl) (Nat.le_of_ble_eq_true rfl) dd_X12_init_57 (fun H hsz hP hS => ?_)
  have hM : zfrM 86 (zup (zup (M) 79 3 3) 79 4 (-1)) := zfrM_le hM (by decide)
  have hF : zfrF 86 (rup (rup (rup (rup (rup (F) 79 5 80) 79 6 81) 79 7 82) 79 8 83) 79 9 84) := zfrF_le hF (by decide)
  refine en_putR (o := 79) (q := 85) C hnam hsz hP hS gf_RX12_32 (fun q h => by cases h; exact ⟨rfl, rfl⟩) (by decide) (by decide +kernel) (by decide +kernel) rfl rfl dd_X12_init_59 (fun H locs hsz hP hS => ?_)
  have hF : zfrF 86 (rup (rup (rup (rup (rup (rup (F) 79 5 80) 79 6 81) 79 7 82) 79 8 83) 79 9 84) 79 10 85) := zfrF_up hF (by decide)
  refine lv_aload_n C.1 C.2.1 dd_X12_init_62 rfl (lv_at hl 0 rfl) ?_
  refine lv_bipush (v := 8) C.1 C.2.1 dd_X12_init_63 (by decide) ?_
  refine en_newa (sh := 20) (N := 8) (ty := .int) (atype := .int) C hsz hP hS hM rfl na_int (by decide +kernel) (by decide +kernel) (by decide) rfl ⟨0, rfl⟩ (fun h => h) (fun _ => rfl) (by decide) (by decide) (Nat.le_of_ble_eq_true rfl) (Nat.le_of_ble_eq_true rfl) (Nat.le_of_ble_eq_true rfl) dd_X12_init_65 (fun H hsz hP hS => ?_)
  have hM : zfrM 87 (zup (zup (M) 79 3 3) 79 4 (-1)) := zfrM_le hM (by decide)
  have hF : zfrF 87 (rup (rup (rup (rup (rup (rup (F) 79 5 80) 79 6 81) 79 7 82) 79 8 83) 79 9 84) 79 10 85) := zfrF_le hF (by decide)
  refine en_putR (o := 79) (q := 86) C hnam hsz hP hS gf_RX12_35 (fun q h => by cases h; exact ⟨rfl, rfl⟩) (by decide) (by decide +kernel) (by decide +kernel) rfl rfl dd_X12_init_67 (fun H locs hsz hP hS => ?_)
  have hF : zfrF 87 (rup (rup (rup (rup (rup (rup (rup (F) 79 5 80) 79 6 81) 79 7 82) 79 8 83) 79 9 84) 79 10 85) 79 11 86) := zfrF_up hF (by decide)
  refine lv_aload_n C.1 C.2.1 dd_X12_init_70 rfl (lv_at hl 0 rfl) ?_
  refine lv_bipush (v := 36) C.1 C.2.1 dd_X12_init_71 (by decide) ?_
  refine en_newa (sh := 20) (N := 36) (ty := .int) (atype := .int) C hsz hP hS hM rfl na_int (by decide +kernel) (by decide +kernel) (by decide) rfl ⟨0, rfl⟩ (fun h => h) (fun _ => rfl) (by decide) (by decide) (Nat.le_of_ble_eq_true rfl) (Nat.le_of_ble_eq_true rfl) (Nat.le_of_ble_eq_true rfl) dd_X12_init_73 (fun H hsz hP hS => ?_)
  have hM : zfrM 88 (zup (zup (M) 79 3 3) 79 4 (-1)) := zfrM_le hM (by decide)
  have hF : zfrF 88 (rup (rup (rup (rup (rup (rup (rup (F) 79 5 80) 79 6 81) 79 7 82) 79 8 83) 79 9 84) 79 10 85) 79 11 86) := zfrF_le hF (by decide)
  refine en_putR (o := 79) (q := 87) C hnam hsz hP hS gf_RX12_38 (fun q h => by cases h; exact ⟨rfl, rfl⟩) (by decide) (by decide +kernel) (by decide +kernel) rfl rfl dd_X12_init_75 (fun H locs hsz hP hS => ?_)
  have hF : zfrF 88 (rup (rup (rup (rup (rup (rup (rup (rup (F) 79 5 80) 79 6 81) 79 7 82) 79 8 83) 79 9 84) 79 10 85) 79 11 86) 79 12 87) := zfrF_up hF (by decide)
  refine lv_aload_n C.1 C.2.1 dd_X12_init_78 rfl (lv_at hl 0 rfl) ?_
  refine lv_sipush (v := 1900) C.1 C.2.1 dd_X12_init_79 (by decide) ?_
  refine en_newa (sh := 20) (N := 1900) (ty := .int) (atype := .int) C hsz hP hS hM rfl na_int (by decide +kernel) (by decide +kernel) (by decide) rfl ⟨0, rfl⟩ (fun h => h) (fun _ => rfl) (by decide) (by decide) (Nat.le_of_ble_eq_true rfl) (Nat.le_of_ble_eq_true rfl) (Nat.le_of_ble_eq_true rfl) dd_X12_init_82 (fun H hsz hP hS => ?_)
  have hM : zfrM 89 (zup (zup (M) 79 3 3) 79 4 (-1)) := zfrM_le hM (by decide)
  have hF : zfrF 89 (rup (rup (rup (rup (rup (rup (rup (rup (F) 79 5 80) 79 6 81) 79 7 82) 79 8 83) 79 9 84) 79 10 85) 79 11 86) 79 12 87) := zfrF_le hF (by decide)
  refine en_putR (o := 79) (q := 88) C hnam hsz hP hS gf_RX12_41 (fun q h => by cases h; exact ⟨rfl, rfl⟩) (by decide) (by decide +kernel) (by decide +kernel) rfl rfl dd_X12_init_84 (fun H locs hsz hP hS => ?_)
  have hF : zfrF 89 (rup (rup (rup (rup (rup (rup (rup (rup (rup (F) 79 5 80) 79 6 81) 79 7 82) 79 8 83) 79 9 84) 79 10 85) 79 11 86) 79 12 87) 79 13 88) := zfrF_up hF (by decide)
  refine lv_aload_n C.1 C.2.1 dd_X12_init_87 rfl (lv_at hl 0 rfl) ?_
  refine lv_sipush (v := 700) C.1 C.2.1 dd_X12_init_88 (by decide) ?_
  refine en_newa (sh := 20) (N := 700) (ty := .int) (atype := .int) C hsz hP hS hM rfl na_int (by decide +kernel) (by decide +kernel) (by decide) rfl ⟨0, rfl⟩ (fun h => h) (fun _ => rfl) (by decide) (by decide) (Nat.le_of_ble_eq_true rfl) (Nat.le_of_ble_eq_true rfl) (Nat.le_of_ble_eq_true rfl) dd_X12_init_91 (fun H hsz hP hS => ?_)
  have hM : zfrM 90 (zup (zup (M) 79 3 3) 79 4 (-1)) := zfrM_le hM (by decide)
  have hF : zfrF 90 (rup (rup (rup (rup (rup (rup (rup (rup (rup (F) 79 5 80) 79 6 81) 79 7 82) 79 8 83) 79 9 84) 79 10 85) 79 11 86) 79 12 87) 79 13 88) := zfrF_le hF (by decide)
  refine en_putR (o := 79) (q := 89) C hnam hsz hP hS gf_RX12_44 (fun q h => by cases h; exact ⟨rfl, rfl⟩) (by decide) (by decide +kernel) (by decide +kernel) rfl rfl dd_X12_init_93 (fun H locs hsz hP hS => ?_)
  have hF : zfrF 90 (rup (rup (rup (rup (rup (rup (rup (rup (rup (rup (F) 79 5 80) 79 6 81) 79 7 82) 79 8 83) 79 9 84) 79 10 85) 79 11 86) 79 12 87) 79 13 88) 79 14 89) := zfrF_up hF (by decide)
  refine lv_aload_n C.1 C.2.1 dd_X12_init_96 rfl (lv_at hl 0 rfl) ?_
  refine lv_iconst (v := (-1)) C.1 C.2.1 dd_X12_init_97 (by decide) ?_
  refine en_putI (o := 79) (v := (-1)) C hsz hP hS gw_RX12_47 (by decide) (by decide +kernel) (by decide +kernel) (by decide) (by decide) dd_X12_init_98 (fun H locs hsz hP hS => ?_)
  have hM : zfrM 90 (zup (zup (zup (M) 79 3 3) 79 4 (-1)) 79 17 (-1)) := zfrM_up hM (by decide)
  refine lv_aload_n C.1 C.2.1 dd_X12_init_101 rfl (lv_at hl 0 rfl) ?_
  refine lv_iconst (v := 3) C.1 C.2.1 dd_X12_init_102 (by decide) ?_
  refine en_newa (sh := 20) (N := 3) (ty := .int) (atype := .int) C hsz hP hS hM rfl na_int (by decide +kernel) (by decide +kernel) (by decide) rfl ⟨0, rfl⟩ (fun h => h) (fun _ => rfl) (by decide) (by decide) (Nat.le_of_ble_eq_true rfl) (Nat.le_of_ble_eq_true rfl) (Nat.le_of_ble_eq_true rfl) dd_X12_init_103 (fun H hsz hP hS => ?_)
  have hM : zfrM 91 (zup (zup (zup (M) 79 3 3) 79 4 (-1)) 79 17 (-1)) := zfrM_le hM (by decide)
  have hF : zfrF 91 (rup (rup (rup (rup (rup (rup (rup (rup (rup (rup (F) 79 5 80) 79 6 81) 79 7 82) 79 8 83) 79 9 84) 79 10 85) 79 11 86) 79 12 87) 79 13 88) 79 14 89) := zfrF_le hF (by decide)
  refine en_putR (o := 79) (q := 90) C hnam hsz hP hS gf_RX12_50 (fun q h => by cases h; exact ⟨rfl, rfl⟩) (by decide) (by decide +kernel) (by decide +kernel) rfl rfl dd_X12_init_105 (fun H locs hsz hP hS => ?_)
  have hF : zfrF 91 (rup (rup (rup (rup (rup (rup (rup (rup (rup (rup (rup (F) 79 5 80) 79 6 81) 79 7 82) 79 8 83) 79 9 84) 79 10 85) 79 11 86) 79 12 87) 79 13 88) 79 14 89) 79 18 90) := zfrF_up hF (by decide)
  refine lv_aload_n C.1 C.2.1 dd_X12_init_108 rfl (lv_at hl 0 rfl) ?_
  refine lv_bipush (v := 72) C.1 C.2.1 dd_X12_init_109 (by decide) ?_
  refine en_newa (sh := 20) (N := 72) (ty := .int) (atype := .int) C hsz hP hS hM rfl na_int (by decide +kernel) (by decide +kernel) (by decide) rfl ⟨0, rfl⟩ (fun h => h) (fun _ => rfl) (by decide) (by decide) (Nat.le_of_ble_eq_true rfl) (Nat.le_of_ble_eq_true rfl) (Nat.le_of_ble_eq_true rfl) dd_X12_init_111 (fun H hsz hP hS => ?_)
  have hM : zfrM 92 (zup (zup (zup (M) 79 3 3) 79 4 (-1)) 79 17 (-1)) := zfrM_le hM (by decide)
  have hF : zfrF 92 (rup (rup (rup (rup (rup (rup (rup (rup (rup (rup (rup (F) 79 5 80) 79 6 81) 79 7 82) 79 8 83) 79 9 84) 79 10 85) 79 11 86) 79 12 87) 79 13 88) 79 14 89) 79 18 90) := zfrF_le hF (by decide)
  refine en_putR (o := 79) (q := 91) C hnam hsz hP hS gf_RX12_53 (fun q h => by cases h; exact ⟨rfl, rfl⟩) (by decide) (by decide +kernel) (by decide +kernel) rfl rfl dd_X12_init_113 (fun H locs hsz hP hS => ?_)
  have hF : zfrF 92 (rup (rup (rup (rup (rup (rup (rup (rup (rup (rup (rup (rup (F) 79 5 80) 79 6 81) 79 7 82) 79 8 83) 79 9 84) 79 10 85) 79 11 86) 79 12 87) 79 13 88) 79 14 89) 79 18 90) 79 36 91) := zfrF_up hF (by decide)
  refine lv_aload_n C.1 C.2.1 dd_X12_init_116 rfl (lv_at hl 0 rfl) ?_
  refine lv_bipush (v := 8) C.1 C.2.1 dd_X12_init_117 (by decide) ?_
  refine en_newa (sh := 20) (N := 8) (ty := .int) (atype := .int) C hsz hP hS hM rfl na_int (by decide +kernel) (by decide +kernel) (by decide) rfl ⟨0, rfl⟩ (fun h => h) (fun _ => rfl) (by decide) (by decide) (Nat.le_of_ble_eq_true rfl) (Nat.le_of_ble_eq_true rfl) (Nat.le_of_ble_eq_true rfl) dd_X12_init_119 (fun H hsz hP hS => ?_)
  have hM : zfrM 93 (zup (zup (zup (M) 79 3 3) 79 4 (-1)) 79 17 (-1)) := zfrM_le hM (by decide)
  have hF : zfrF 93 (rup (rup (rup (rup (rup (rup (rup (rup (rup (rup (rup (rup (F) 79 5 80) 79 6 81) 79 7 82) 79 8 83) 79 9 84) 79 10 85) 79 11 86) 79 12 87) 79 13 88) 79 14 89) 79 18 90) 79 36 91) := zfrF_le hF (by decide)
  refine en_putR (o := 79) (q := 92) C hnam hsz hP hS gf_RX12_56 (fun q h => by cases h; exact ⟨rfl, rfl⟩) (by decide) (by decide +kernel) (by decide +kernel) rfl rfl dd_X12_init_121 (fun H locs hsz hP hS => ?_)
  have hF : zfrF 93 (rup (rup (rup (rup (rup (rup (rup (rup (rup (rup (rup (rup (rup (F) 79 5 80) 79 6 81) 79 7 82) 79 8 83) 79 9 84) 79 10 85) 79 11 86) 79 12 87) 79 13 88) 79 14 89) 79 18 90) 79 36 91) 79 37 92) := zfrF_up hF (by decide)
  refine lv_aload_n C.1 C.2.1 dd_X12_init_124 rfl (lv_at hl 0 rfl) ?_
  refine lv_bipush (v := 8) C.1 C.2.1 dd_X12_init_125 (by decide) ?_
  refine en_newa (sh := 20) (N := 8) (ty := .int) (atype := .int) C hsz hP hS hM rfl na_int (by decide +kernel) (by decide +kernel) (by decide) rfl ⟨0, rfl⟩ (fun h => h) (fun _ => rfl) (by decide) (by decide) (Nat.le_of_ble_eq_true rfl) (Nat.le_of_ble_eq_true rfl) (Nat.le_of_ble_eq_true rfl) dd_X12_init_127 (fun H hsz hP hS => ?_)
  have hM : zfrM 94 (zup (zup (zup (M) 79 3 3) 79 4 (-1)) 79 17 (-1)) := zfrM_le hM (by decide)
  have hF : zfrF 94 (rup (rup (rup (rup (rup (rup (rup (rup (rup (rup (rup (rup (rup (F) 79 5 80) 79 6 81) 79 7 82) 79 8 83) 79 9 84) 79 10 85) 79 11 86) 79 12 87) 79 13 88) 79 14 89) 79 18 90) 79 36 91) 79 37 92) := zfrF_le hF (by decide)
  refine en_putR (o := 79) (q := 93) C hnam hsz hP hS gf_RX12_59 (fun q h => by cases h; exact ⟨rfl, rfl⟩) (by decide) (by decide +kernel) (by decide +kernel) rfl rfl dd_X12_init_129 (fun H locs hsz hP hS => ?_)
  have hF : zfrF 94 (rup (rup (rup (rup (rup (rup (rup (rup (rup (rup (rup (rup (rup (rup (F) 79 5 80) 79 6 81) 79 7 82) 79 8 83) 79 9 84) 79 10 85) 79 11 86) 79 12 87) 79 13 88) 79 14 89) 79 18 90) 79 36 91) 79 37 92) 79 38 93) := zfrF_up hF (by decide)
  refine lv_aload_n C.1 C.2.1 dd_X12_init_132 rfl (lv_at hl 0 rfl) ?_
  refine lv_bipush (v := 8) C.1 C.2.1 dd_X12_init_133 (by decide) ?_
  refine en_newa (sh := 20) (N := 8) (ty := .int) (atype := .int) C hsz hP hS hM rfl na_int (by decide +kernel) (by decide +kernel) (by decide) rfl ⟨0, rfl⟩ (fun h => h) (fun _ => rfl) (by decide) (by decide) (Nat.le_of_ble_eq_true rfl) (Nat.le_of_ble_eq_true rfl) (Nat.le_of_ble_eq_true rfl) dd_X12_init_135 (fun H hsz hP hS => ?_)
  have hM : zfrM 95 (zup (zup (zup (M) 79 3 3) 79 4 (-1)) 79 17 (-1)) := zfrM_le hM (by decide)
  have hF : zfrF 95 (rup (rup (rup (rup (rup (rup (rup (rup (rup (rup (rup (rup (rup (rup (F) 79 5 80) 79 6 81) 79 7 82) 79 8 83) 79 9 84) 79 10 85) 79 11 86) 79 12 87) 79 13 88) 79 14 89) 79 18 90) 79 36 91) 79 37 92) 79 38 93) := zfrF_le hF (by decide)
  refine en_putR (o := 79) (q := 94) C hnam hsz hP hS gf_RX12_62 (fun q h => by cases h; exact ⟨rfl, rfl⟩) (by decide) (by decide +kernel) (by decide +kernel) rfl rfl dd_X12_init_137 (fun H locs hsz hP hS => ?_)
  have hF : zfrF 95 (rup (rup (rup (rup (rup (rup (rup (rup (rup (rup (rup (rup (rup (rup (rup (F) 79 5 80) 79 6 81) 79 7 82) 79 8 83) 79 9 84) 79 10 85) 79 11 86) 79 12 87) 79 13 88) 79 14 89) 79 18 90) 79 36 91) 79 37 92) 79 38 93) 79 39 94) := zfrF_up hF (by decide)
  refine lv_aload_n C.1 C.2.1 dd_X12_init_140 rfl (lv_at hl 0 rfl) ?_
  refine lv_bipush (v := 8) C.1 C.2.1 dd_X12_init_141 (by decide) ?_
  refine en_newa (sh := 20) (N := 8) (ty := .int) (atype := .int) C hsz hP hS hM rfl na_int (by decide +kernel) (by decide +kernel) (by decide) rfl ⟨0, rfl⟩ (fun h => h) (fun _ => rfl) (by decide) (by decide) (Nat.le_of_ble_eq_true rfl) (Nat.le_of_ble_eq_true rfl) (Nat.le_of_ble_eq_true rfl) dd_X12_init_143 (fun H hsz hP hS => ?_)
  have hM : zfrM 96 (zup (zup (zup (M) 79 3 3) 79 4 (-1)) 79 17 (-1)) := zfrM_le hM (by decide)
  have hF : zfrF 96 (rup (rup (rup (rup (rup (rup (rup (rup (rup (rup (rup (rup (rup (rup (rup (F) 79 5 80) 79 6 81) 79 7 82) 79 8 83) 79 9 84) 79 10 85) 79 11 86) 79 12 87) 79 13 88) 79 14 89) 79 18 90) 79 36 91) 79 37 92) 79 38 93) 79 39 94) := zfrF_le hF (by decide)
  refine en_putR (o := 79) (q := 95) C hnam hsz hP hS gf_RX12_65 (fun q h => by cases h; exact ⟨rfl, rfl⟩) (by decide) (by decide +kernel) (by decide +kernel) rfl rfl dd_X12_init_145 (fun H locs hsz hP hS => ?_)
  have hF : zfrF 96 (rup (rup (rup (rup (rup (rup (rup (rup (rup (rup (rup (rup (rup (rup (rup (rup (F) 79 5 80) 79 6 81) 79 7 82) 79 8 83) 79 9 84) 79 10 85) 79 11 86) 79 12 87) 79 13 88) 79 14 89) 79 18 90) 79 36 91) 79 37 92) 79 38 93) 79 39 94) 79 40 95) := zfrF_up hF (by decide)
  refine lv_aload_n C.1 C.2.1 dd_X12_init_148 rfl (lv_at hl 0 rfl) ?_
  refine lv_bipush (v := 64) C.1 C.2.1 dd_X12_init_149 (by decide) ?_
  refine en_newa (sh := 20) (N := 64) (ty := .int) (atype := .int) C hsz hP hS hM rfl na_int (by decide +kernel) (by decide +kernel) (by decide) rfl ⟨0, rfl⟩ (fun h => h) (fun _ => rfl) (by decide) (by decide) (Nat.le_of_ble_eq_true rfl) (Nat.le_of_ble_eq_true rfl) (Nat.le_of_ble_eq_true rfl) dd_X12_init_151 (fun H hsz hP hS => ?_)
  have hM : zfrM 97 (zup (zup (zup (M) 79 3 3) 79 4 (-1)) 79 17 (-1)) := zfrM_le hM (by decide)
  have hF : zfrF 97 (rup (rup (rup (rup (rup (rup (rup (rup (rup (rup (rup (rup (rup (rup (rup (rup (F) 79 5 80) 79 6 81) 79 7 82) 79 8 83) 79 9 84) 79 10 85) 79 11 86) 79 12 87) 79 13 88) 79 14 89) 79 18 90) 79 36 91) 79 37 92) 79 38 93) 79 39 94) 79 40 95) := zfrF_le hF (by decide)
  refine en_putR (o := 79) (q := 96) C hnam hsz hP hS gf_RX12_68 (fun q h => by cases h; exact ⟨rfl, rfl⟩) (by decide) (by decide +kernel) (by decide +kernel) rfl rfl dd_X12_init_153 (fun H locs hsz hP hS => ?_)
  have hF : zfrF 97 (rup (rup (rup (rup (rup (rup (rup (rup (rup (rup (rup (rup (rup (rup (rup (rup (rup (F) 79 5 80) 79 6 81) 79 7 82) 79 8 83) 79 9 84) 79 10 85) 79 11 86) 79 12 87) 79 13 88) 79 14 89) 79 18 90) 79 36 91) 79 37 92) 79 38 93) 79 39 94) 79 40 95) 79 41 96) := zfrF_up hF (by decide)
  refine lv_aload_n C.1 C.2.1 dd_X12_init_156 rfl (lv_at hl 0 rfl) ?_
  refine lv_bipush (v := 8) C.1 C.2.1 dd_X12_init_157 (by decide) ?_
  refine en_newa (sh := 20) (N := 8) (ty := .int) (atype := .int) C hsz hP hS hM rfl na_int (by decide +kernel) (by decide +kernel) (by decide) rfl ⟨0, rfl⟩ (fun h => h) (fun _ => rfl) (by decide) (by decide) (Nat.le_of_ble_eq_true rfl) (Nat.le_of_ble_eq_true rfl) (Nat.le_of_ble_eq_true rfl) dd_X12_init_159 (fun H hsz hP hS => ?_)
  have hM : zfrM 98 (zup (zup (zup (M) 79 3 3) 79 4 (-1)) 79 17 (-1)) := zfrM_le hM (by decide)
  have hF : zfrF 98 (rup (rup (rup (rup (rup (rup (rup (rup (rup (rup (rup (rup (rup (rup (rup (rup (rup (F) 79 5 80) 79 6 81) 79 7 82) 79 8 83) 79 9 84) 79 10 85) 79 11 86) 79 12 87) 79 13 88) 79 14 89) 79 18 90) 79 36 91) 79 37 92) 79 38 93) 79 39 94) 79 40 95) 79 41 96) := zfrF_le hF (by decide)
  refine en_putR (o := 79) (q := 97) C hnam hsz hP hS gf_RX12_71 (fun q h => by cases h; exact ⟨rfl, rfl⟩) (by decide) (by decide +kernel) (by decide +kernel) rfl rfl dd_X12_init_161 (fun H locs hsz hP hS => ?_)
  have hF : zfrF 98 (rup (rup (rup (rup (rup (rup (rup (rup (rup (rup (rup (rup (rup (rup (rup (rup (rup (rup (F) 79 5 80) 79 6 81) 79 7 82) 79 8 83) 79 9 84) 79 10 85) 79 11 86) 79 12 87) 79 13 88) 79 14 89) 79 18 90) 79 36 91) 79 37 92) 79 38 93) 79 39 94) 79 40 95) 79 41 96) 79 42 97) := zfrF_up hF (by decide)
  refine lv_aload_n C.1 C.2.1 dd_X12_init_164 rfl (lv_at hl 0 rfl) ?_
  refine lv_bipush (v := 36) C.1 C.2.1 dd_X12_init_165 (by decide) ?_
  refine en_newa (sh := 20) (N := 36) (ty := .int) (atype := .int) C hsz hP hS hM rfl na_int (by decide +kernel) (by decide +kernel) (by decide) rfl ⟨0, rfl⟩ (fun h => h) (fun _ => rfl) (by decide) (by decide) (Nat.le_of_ble_eq_true rfl) (Nat.le_of_ble_eq_true rfl) (Nat.le_of_ble_eq_true rfl) dd_X12_init_167 (fun H hsz hP hS => ?_)
  have hM : zfrM 99 (zup (zup (zup (M) 79 3 3) 79 4 (-1)) 79 17 (-1)) := zfrM_le hM (by decide)
  have hF : zfrF 99 (rup (rup (rup (rup (rup (rup (rup (rup (rup (rup (rup (rup (rup (rup (rup (rup (rup (rup (F) 79 5 80) 79 6 81) 79 7 82) 79 8 83) 79 9 84) 79 10 85) 79 11 86) 79 12 87) 79 13 88) 79 14 89) 79 18 90) 79 36 91) 79 37 92) 79 38 93) 79 39 94) 79 40 95) 79 41 96) 79 42 97) := zfrF_le hF (by decide)
  refine en_putR (o := 79) (q := 98) C hnam hsz hP hS gf_RX12_74 (fun q h => by cases h; exact ⟨rfl, rfl⟩) (by decide) (by decide +kernel) (by decide +kernel) rfl rfl dd_X12_init_169 (fun H locs hsz hP hS => ?_)
  have hF : zfrF 99 (rup (rup (rup (rup (rup (rup (rup (rup (rup (rup (rup (rup (rup (rup (rup (rup (rup (rup (rup (F) 79 5 80) 79 6 81) 79 7 82) 79 8 83) 79 9 84) 79 10 85) 79 11 86) 79 12 87) 79 13 88) 79 14 89) 79 18 90) 79 36 91) 79 37 92) 79 38 93) 79 39 94) 79 40 95) 79 41 96) 79 42 97) 79 43 98) := zfrF_up hF (by decide)
  refine lv_aload_n C.1 C.2.1 dd_X12_init_172 rfl (lv_at hl 0 rfl) ?_
  refine lv_sipush (v := 1900) C.1 C.2.1 dd_X12_init_173 (by decide) ?_
  refine en_newa (sh := 20) (N := 1900) (ty := .int) (atype := .int) C hsz hP hS hM rfl na_int (by decide +kernel) (by decide +kernel) (by decide) rfl ⟨0, rfl⟩ (fun h => h) (fun _ => rfl) (by decide) (by decide) (Nat.le_of_ble_eq_true rfl) (Nat.le_of_ble_eq_true rfl) (Nat.le_of_ble_eq_true rfl) dd_X12_init_176 (fun H hsz hP hS => ?_)
  have hM : zfrM 100 (zup (zup (zup (M) 79 3 3) 79 4 (-1)) 79 17 (-1)) := zfrM_le hM (by decide)
  have hF : zfrF 100 (rup (rup (rup (rup (rup (rup (rup (rup (rup (rup (rup (rup (rup (rup (rup (rup (rup (rup (rup (F) 79 5 80) 79 6 81) 79 7 82) 79 8 83) 79 9 84) 79 10 85) 79 11 86) 79 12 87) 79 13 88) 79 14 89) 79 18 90) 79 36 91) 79 37 92) 79 38 93) 79 39 94) 79 40 95) 79 41 96) 79 42 97) 79 43 98) := zfrF_le hF (by decide)
  refine en_putR (o := 79) (q := 99) C hnam hsz hP hS gf_RX12_77 (fun q h => by cases h; exact ⟨rfl, rfl⟩) (by decide) (by decide +kernel) (by decide +kernel) rfl rfl dd_X12_init_178 (fun H locs hsz hP hS => ?_)
  have hF : zfrF 100 (rup (rup (rup (rup (rup (rup (rup (rup (rup (rup (rup (rup (rup (rup (rup (rup (rup (rup (rup (rup (F) 79 5 80) 79 6 81) 79 7 82) 79 8 83) 79 9 84) 79 10 85) 79 11 86) 79 12 87) 79 13 88) 79 14 89) 79 18 90) 79 36 91) 79 37 92) 79 38 93) 79 39 94) 79 40 95) 79 41 96) 79 42 97) 79 43 98) 79 44 99) := zfrF_up hF (by decide)
  refine lv_aload_n C.1 C.2.1 dd_X12_init_181 rfl (lv_at hl 0 rfl) ?_
  refine lv_sipush (v := 950) C.1 C.2.1 dd_X12_init_182 (by decide) ?_
  refine en_newa (sh := 20) (N := 950) (ty := .int) (atype := .int) C hsz hP hS hM rfl na_int (by decide +kernel) (by decide +kernel) (by decide) rfl ⟨0, rfl⟩ (fun h => h) (fun _ => rfl) (by decide) (by decide) (Nat.le_of_ble_eq_true rfl) (Nat.le_of_ble_eq_true rfl) (Nat.le_of_ble_eq_true rfl) dd_X12_init_185 (fun H hsz hP hS => ?_)
  have hM : zfrM 101 (zup (zup (zup (M) 79 3 3) 79 4 (-1)) 79 17 (-1)) := zfrM_le hM (by decide)
  have hF : zfrF 101 (rup (rup (rup (rup (rup (rup (rup (rup (rup (rup (rup (rup (rup (rup (rup (rup (rup (rup (rup (rup (F) 79 5 80) 79 6 81) 79 7 82) 79 8 83) 79 9 84) 79 10 85) 79 11 86) 79 12 87) 79 13 88) 79 14 89) 79 18 90) 79 36 91) 79 37 92) 79 38 93) 79 39 94) 79 40 95) 79 41 96) 79 42 97) 79 43 98) 79 44 99) := zfrF_le hF (by decide)
  refine en_putR (o := 79) (q := 100) C hnam hsz hP hS gf_RX12_80 (fun q h => by cases h; exact ⟨rfl, rfl⟩) (by decide) (by decide +kernel) (by decide +kernel) rfl rfl dd_X12_init_187 (fun H locs hsz hP hS => ?_)
  have hF : zfrF 101 (rup (rup (rup (rup (rup (rup (rup (rup (rup (rup (rup (rup (rup (rup (rup (rup (rup (rup (rup (rup (rup (F) 79 5 80) 79 6 81) 79 7 82) 79 8 83) 79 9 84) 79 10 85) 79 11 86) 79 12 87) 79 13 88) 79 14 89) 79 18 90) 79 36 91) 79 37 92) 79 38 93) 79 39 94) 79 40 95) 79 41 96) 79 42 97) 79 43 98) 79 44 99) 79 45 100) := zfrF_up hF (by decide)
  refine lv_aload_n C.1 C.2.1 dd_X12_init_190 rfl (lv_at hl 0 rfl) ?_
  refine lv_bipush (v := 9) C.1 C.2.1 dd_X12_init_191 (by decide) ?_
  refine en_newa (sh := 22) (N := 9) (ty := .boolean) (atype := .boolean) C hsz hP hS hM rfl na_boolean (by decide +kernel) (by decide +kernel) (by decide) rfl ⟨2, rfl⟩ (fun h => h) (fun _ => rfl) (by decide) (by decide) (Nat.le_of_ble_eq_true rfl) (Nat.le_of_ble_eq_true rfl) (Nat.le_of_ble_eq_true rfl) dd_X12_init_193 (fun H hsz hP hS => ?_)
  have hM : zfrM 102 (zup (zup (zup (M) 79 3 3) 79 4 (-1)) 79 17 (-1)) := zfrM_le hM (by decide)
  have hF : zfrF 102 (rup (rup (rup (rup (rup (rup (rup (rup (rup (rup (rup (rup (rup (rup (rup (rup (rup (rup (rup (rup (rup (F) 79 5 80) 79 6 81) 79 7 82) 79 8 83) 79 9 84) 79 10 85) 79 11 86) 79 12 87) 79 13 88) 79 14 89) 79 18 90) 79 36 91) 79 37 92) 79 38 93) 79 39 94) 79 40 95) 79 41 96) 79 42 97) 79 43 98) 79 44 99) 79 45 100) := zfrF_le hF (by decide)
  refine en_putR (o := 79) (q := 101) C hnam hsz hP hS gf_RX12_83 (fun q h => by cases h; exact ⟨rfl, rfl⟩) (by decide) (by decide +kernel) (by decide +kernel) rfl rfl dd_X12_init_195 (fun H locs hsz hP hS => ?_)
  have hF : zfrF 102 (rup (rup (rup (rup (rup (rup (rup (rup (rup (rup (rup (rup (rup (rup (rup (rup (rup (rup (rup (rup (rup (rup (F) 79 5 80) 79 6 81) 79 7 82) 79 8 83) 79 9 84) 79 10 85) 79 11 86) 79 12 87) 79 13 88) 79 14 89) 79 18 90) 79 36 91) 79 37 92) 79 38 93) 79 39 94) 79 40 95) 79 41 96) 79 42 97) 79 43 98) 79 44 99) 79 45 100) 79 46 101) := zfrF_up hF (by decide)
  refine lv_aload_n C.1 C.2.1 dd_X12_init_198 rfl (lv_at hl 0 rfl) ?_
  refine lv_bipush (v := 73) C.1 C.2.1 dd_X12_init_199 (by decide) ?_
  refine en_newa (sh := 20) (N := 73) (ty := .int) (atype := .int) C hsz hP hS hM rfl na_int (by decide +kernel) (by decide +kernel) (by decide) rfl ⟨0, rfl⟩ (fun h => h) (fun _ => rfl) (by decide) (by decide) (Nat.le_of_ble_eq_true rfl) (Nat.le_of_ble_eq_true rfl) (Nat.le_of_ble_eq_true rfl) dd_X12_init_201 (fun H hsz hP hS => ?_)
  have hM : zfrM 103 (zup (zup (zup (M) 79 3 3) 79 4 (-1)) 79 17 (-1)) := zfrM_le hM (by decide)
  have hF : zfrF 103 (rup (rup (rup (rup (rup (rup (rup (rup (rup (rup (rup (rup (rup (rup (rup (rup (rup (rup (rup (rup (rup (rup (F) 79 5 80) 79 6 81) 79 7 82) 79 8 83) 79 9 84) 79 10 85) 79 11 86) 79 12 87) 79 13 88) 79 14 89) 79 18 90) 79 36 91) 79 37 92) 79 38 93) 79 39 94) 79 40 95) 79 41 96) 79 42 97) 79 43 98) 79 44 99) 79 45 100) 79 46 101) := zfrF_le hF (by decide)
  refine en_putR (o := 79) (q := 102) C hnam hsz hP hS gf_RX12_87 (fun q h => by cases h; exact ⟨rfl, rfl⟩) (by decide) (by decide +kernel) (by decide +kernel) rfl rfl dd_X12_init_203 (fun H locs hsz hP hS => ?_)
  have hF : zfrF 103 (rup (rup (rup (rup (rup (rup (rup (rup (rup (rup (rup (rup (rup (rup (rup (rup (rup (rup (rup (rup (rup (rup (rup (F) 79 5 80) 79 6 81) 79 7 82) 79 8 83) 79 9 84) 79 10 85) 79 11 86) 79 12 87) 79 13 88) 79 14 89) 79 18 90) 79 36 91) 79 37 92) 79 38 93) 79 39 94) 79 40 95) 79 41 96) 79 42 97) 79 43 98) 79 44 99) 79 45 100) 79 46 101) 79 47 102) := zfrF_up hF (by decide)
  refine lv_aload_n C.1 C.2.1 dd_X12_init_206 rfl (lv_at hl 0 rfl) ?_
  refine lv_bipush (v := 73) C.1 C.2.1 dd_X12_init_207 (by decide) ?_
  refine en_newa (sh := 20) (N := 73) (ty := .int) (atype := .int) C hsz hP hS hM rfl na_int (by decide +kernel) (by decide +kernel) (by decide) rfl ⟨0, rfl⟩ (fun h => h) (fun _ => rfl) (by decide) (by decide) (Nat.le_of_ble_eq_true rfl) (Nat.le_of_ble_eq_true rfl) (Nat.le_of_ble_eq_true rfl) dd_X12_init_209 (fun H hsz hP hS => ?_)
  have hM : zfrM 104 (zup (zup (zup (M) 79 3 3) 79 4 (-1)) 79 17 (-1)) := zfrM_le hM (by decide)
  have hF : zfrF 104 (rup (rup (rup (rup (rup (rup (rup (rup (rup (rup (rup (rup (rup (rup (rup (rup (rup (rup (rup (rup (rup (rup (rup (F) 79 5 80) 79 6 81) 79 7 82) 79 8 83) 79 9 84) 79 10 85) 79 11 86) 79 12 87) 79 13 88) 79 14 89) 79 18 90) 79 36 91) 79 37 92) 79 38 93) 79 39 94) 79 40 95) 79 41 96) 79 42 97) 79 43 98) 79 44 99) 79 45 100) 79 46 101) 79 47 102) := zfrF_le hF (by decide)
  refine en_putR (o := 79) (q := 103) C hnam hsz hP hS gf_RX12_90 (fun q h => by cases h; exact ⟨rfl, rfl⟩) (by decide) (by decide +kernel) (by decide +kernel) rfl rfl dd_X12_init_211 (fun H locs hsz hP hS => ?_)
  have hF : zfrF 104 (rup (rup (rup (rup (rup (rup (rup (rup (rup (rup (rup (rup (rup (rup (rup (rup (rup (rup (rup (rup (rup (rup (rup (rup (F) 79 5 80) 79 6 81) 79 7 82) 79 8 83) 79 9 84) 79 10 85) 79 11 86) 79 12 87) 79 13 88) 79 14 89) 79 18 90) 79 36 91) 79 37 92) 79 38 93) 79 39 94) 79 40 95) 79 41 96) 79 42 97) 79 43 98) 79 44 99) 79 45 100) 79 46 101) 79 47 102) 79 48 103) := zfrF_up hF (by decide)
  refine lv_aload_n C.1 C.2.1 dd_X12_init_214 rfl (lv_at hl 0 rfl) ?_
  refine lv_sipush (v := 2920) C.1 C.2.1 dd_X12_init_215 (by decide) ?_
  refine en_newa (sh := 20) (N := 2920) (ty := .int) (atype := .int) C hsz hP hS hM rfl na_int (by decide +kernel) (by decide +kernel) (by decide) rfl ⟨0, rfl⟩ (fun h => h) (fun _ => rfl) (by decide) (by decide) (Nat.le_of_ble_eq_true rfl) (Nat.le_of_ble_eq_true rfl) (Nat.le_of_ble_eq_true rfl) dd_X12_init_218 (fun H hsz hP hS => ?_)
  have hM : zfrM 105 (zup (zup (zup (M) 79 3 3) 79 4 (-1)) 79 17 (-1)) := zfrM_le hM (by decide)
  have hF : zfrF 105 (rup (rup (rup (rup (rup (rup (rup (rup (rup (rup (rup (rup (rup (rup (rup (rup (rup (rup (rup (rup (rup (rup (rup (rup (F) 79 5 80) 79 6 81) 79 7 82) 79 8 83) 79 9 84) 79 10 85) 79 11 86) 79 12 87) 79 13 88) 79 14 89) 79 18 90) 79 36 91) 79 37 92) 79 38 93) 79 39 94) 79 40 95) 79 41 96) 79 42 97) 79 43 98) 79 44 99) 79 45 100) 79 46 101) 79 47 102) 79 48 103) := zfrF_le hF (by decide)
  refine en_putR (o := 79) (q := 104) C hnam hsz hP hS gf_RX12_93 (fun q h => by cases h; exact ⟨rfl, rfl⟩) (by decide) (by decide +kernel) (by decide +kernel) rfl rfl dd_X12_init_220 (fun H locs hsz hP hS => ?_)
  have hF : zfrF 105 (rup (rup (rup (rup (rup (rup (rup (rup (rup (rup (rup (rup (rup (rup (rup (rup (rup (rup (rup (rup (rup (rup (rup (rup (rup (F) 79 5 80) 79 6 81) 79 7 82) 79 8 83) 79 9 84) 79 10 85) 79 11 86) 79 12 87) 79 13 88) 79 14 89) 79 18 90) 79 36 91) 79 37 92) 79 38 93) 79 39 94) 79 40 95) 79 41 96) 79 42 97) 79 43 98) 79 44 99) 79 45 100) 79 46 101) 79 47 102) 79 48 103) 79 49 104) := zfrF_up hF (by decide)
  refine lv_aload_n C.1 C.2.1 dd_X12_init_223 rfl (lv_at hl 0 rfl) ?_
  refine lv_bipush (v := 7) C.1 C.2.1 dd_X12_init_224 (by decide) ?_
  refine en_newa (sh := 20) (N := 7) (ty := .int) (atype := .int) C hsz hP hS hM rfl na_int (by decide +kernel) (by decide +kernel) (by decide) rfl ⟨0, rfl⟩ (fun h => h) (fun _ => rfl) (by decide) (by decide) (Nat.le_of_ble_eq_true rfl) (Nat.le_of_ble_eq_true rfl) (Nat.le_of_ble_eq_true rfl) dd_X12_init_226 (fun H hsz hP hS => ?_)
  have hM : zfrM 106 (zup (zup (zup (M) 79 3 3) 79 4 (-1)) 79 17 (-1)) := zfrM_le hM (by decide)
  have hF : zfrF 106 (rup (rup (rup (rup (rup (rup (rup (rup (rup (rup (rup (rup (rup (rup (rup (rup (rup (rup (rup (rup (rup (rup (rup (rup (rup (F) 79 5 80) 79 6 81) 79 7 82) 79 8 83) 79 9 84) 79 10 85) 79 11 86) 79 12 87) 79 13 88) 79 14 89) 79 18 90) 79 36 91) 79 37 92) 79 38 93) 79 39 94) 79 40 95) 79 41 96) 79 42 97) 79 43 98) 79 44 99) 79 45 100) 79 46 101) 79 47 102) 79 48 103) 79 49 104) := zfrF_le hF (by decide)
  refine en_putR (o := 79) (q := 105) C hnam hsz hP hS gf_RX12_96 (fun q h => by cases h; exact ⟨rfl, rfl⟩) (by decide) (by decide +kernel) (by decide +kernel) rfl rfl dd_X12_init_228 (fun H locs hsz hP hS => ?_)
  have hF : zfrF 106 (rup (rup (rup (rup (rup (rup (rup (rup (rup (rup (rup (rup (rup (rup (rup (rup (rup (rup (rup (rup (rup (rup (rup (rup (rup (rup (F) 79 5 80) 79 6 81) 79 7 82) 79 8 83) 79 9 84) 79 10 85) 79 11 86) 79 12 87) 79 13 88) 79 14 89) 79 18 90) 79 36 91) 79 37 92) 79 38 93) 79 39 94) 79 40 95) 79 41 96) 79 42 97) 79 43 98) 79 44 99) 79 45 100) 79 46 101) 79 47 102) 79 48 103) 79 49 104) 79 51 105) := zfrF_up hF (by decide)
  refine lv_aload_n C.1 C.2.1 dd_X12_init_231 rfl (lv_at hl 0 rfl) ?_
  refine lv_sipush (v := 950) C.1 C.2.1 dd_X12_init_232 (by decide) ?_
  refine en_newa (sh := 20) (N := 950) (ty := .int) (atype := .int) C hsz hP hS hM rfl na_int (by decide +kernel) (by decide +kernel) (by decide) rfl ⟨0, rfl⟩ (fun h => h) (fun _ => rfl) (by decide) (by decide) (Nat.le_of_ble_eq_true rfl) (Nat.le_of_ble_eq_true rfl) (Nat.le_of_ble_eq_true rfl) dd_X12_init_235 (fun H hsz hP hS => ?_)
  have hM : zfrM 107 (zup (zup (zup (M) 79 3 3) 79 4 (-1)) 79 17 (-1)) := zfrM_le hM (by decide)
  have hF : zfrF 107 (rup (rup (rup (rup (rup (rup (rup (rup (rup (rup (rup (rup (rup (rup (rup (rup (rup (rup (rup (rup (rup (rup (rup (rup (rup (rup (F) 79 5 80) 79 6 81) 79 7 82) 79 8 83) 79 9 84) 79 10 85) 79 11 86) 79 12 87) 79 13 88) 79 14 89) 79 18 90) 79 36 91) 79 37 92) 79 38 93) 79 39 94) 79 40 95) 79 41 96) 79 42 97) 79 43 98) 79 44 99) 79 45 100) 79 46 101) 79 47 102) 79 48 103) 79 49 104) 79 51 105) := zfrF_le hF (by decide)
  refine en_putR (o := 79) (q := 106) C hnam hsz hP hS gf_RX12_99 (fun q h => by cases h; exact ⟨rfl, rfl⟩) (by decide) (by decide +kernel) (by decide +kernel) rfl rfl dd_X12_init_237 (fun H locs hsz hP hS => ?_)
  have hF : zfrF 107 (rup (rup (rup (rup (rup (rup (rup (rup (rup (rup (rup (rup (rup (rup (rup (rup (rup (rup (rup (rup (rup (rup (rup (rup (rup (rup (rup (F) 79 5 80) 79 6 81) 79 7 82) 79 8 83) 79 9 84) 79 10 85) 79 11 86) 79 12 87) 79 13 88) 79 14 89) 79 18 90) 79 36 91) 79 37 92) 79 38 93) 79 39 94) 79 40 95) 79 41 96) 79 42 97) 79 43 98) 79 44 99) 79 45 100) 79 46 101) 79 47 102) 79 48 103) 79 49 104) 79 51 105) 79 52 106) := zfrF_up hF (by decide)
  refine lv_aload_n C.1 C.2.1 dd_X12_init_240 rfl (lv_at hl 0 rfl) ?_
  refine lv_bipush (v := 8) C.1 C.2.1 dd_X12_init_241 (by decide) ?_
  refine en_newa (sh := 20) (N := 8) (ty := .int) (atype := .int) C hsz hP hS hM rfl na_int (by decide +kernel) (by decide +kernel) (by decide) rfl ⟨0, rfl⟩ (fun h => h) (fun _ => rfl) (by decide) (by decide) (Nat.le_of_ble_eq_true rfl) (Nat.le_of_ble_eq_true rfl) (Nat.le_of_ble_eq_true rfl) dd_X12_init_243 (fun H hsz hP hS => ?_)
  have hM : zfrM 108 (zup (zup (zup (M) 79 3 3) 79 4 (-1)) 79 17 (-1)) := zfrM_le hM (by decide)
  have hF : zfrF 108 (rup (rup (rup (rup (rup (rup (rup (rup (rup (rup (rup (rup (rup (rup (rup (rup (rup (rup (rup (rup (rup (rup (rup (rup (rup (rup (rup (F) 79 5 80) 79 6 81) 79 7 82) 79 8 83) 79 9 84) 79 10 85) 79 11 86) 79 12 87) 79 13 88) 79 14 89) 79 18 90) 79 36 91) 79 37 92) 79 38 93) 79 39 94) 79 40 95) 79 41 96) 79 42 97) 79 43 98) 79 44 99) 79 45 100) 79 46 101) 79 47 102) 79 48 103) 79 49 104) 79 51 105) 79 52 106) := zfrF_le hF (by decide)
  refine en_putR (o := 79) (q := 107) C hnam hsz hP hS gf_RX12_102 (fun q h => by cases h; exact ⟨rfl, rfl⟩) (by decide) (by decide +kernel) (by decide +kernel) rfl rfl dd_X12_init_245 (fun H locs hsz hP hS => ?_)
  have hF : zfrF 108 (rup (rup (rup (rup (rup (rup (rup (rup (rup (rup (rup (rup (rup (rup (rup (rup (rup (rup (rup (rup (rup (rup (rup (rup (rup (rup (rup (rup (F) 79 5 80) 79 6 81) 79 7 82) 79 8 83) 79 9 84) 79 10 85) 79 11 86) 79 12 87) 79 13 88) 79 14 89) 79 18 90) 79 36 91) 79 37 92) 79 38 93) 79 39 94) 79 40 95) 79 41 96) 79 42 97) 79 43 98) 79 44 99) 79 45 100) 79 46 101) 79 47 102) 79 48 103) 79 49 104) 79 51 105) 79 52 106) 79 53 107) := zfrF_up hF (by decide)
  refine lv_aload_n C.1 C.2.1 dd_X12_init_248 rfl (lv_at hl 0 rfl) ?_
  refine lv_sipush (v := 256) C.1 C.2.1 dd_X12_init_249 (by decide) ?_
  refine en_newa (sh := 20) (N := 256) (ty := .int) (atype := .int) C hsz hP hS hM rfl na_int (by decide +kernel) (by decide +kernel) (by decide) rfl ⟨0, rfl⟩ (fun h => h) (fun _ => rfl) (by decide) (by decide) (Nat.le_of_ble_eq_true rfl) (Nat.le_of_ble_eq_true rfl) (Nat.le_of_ble_eq_true rfl) dd_X12_init_252 (fun H hsz hP hS => ?_)
  have hM : zfrM 109 (zup (zup (zup (M) 79 3 3) 79 4 (-1)) 79 17 (-1)) := zfrM_le hM (by decide)
  have hF : zfrF 109 (rup (rup (rup (rup (rup (rup (rup (rup (rup (rup (rup (rup (rup (rup (rup (rup (rup (rup (rup (rup (rup (rup (rup (rup (rup (rup (rup (rup (F) 79 5 80) 79 6 81) 79 7 82) 79 8 83) 79 9 84) 79 10 85) 79 11 86) 79 12 87) 79 13 88) 79 14 89) 79 18 90) 79 36 91) 79 37 92) 79 38 93) 79 39 94) 79 40 95) 79 41 96) 79 42 97) 79 43 98) 79 44 99) 79 45 100) 79 46 101) 79 47 102) 79 48 103) 79 49 104) 79 51 105) 79 52 106) 79 53 107) := zfrF_le hF (by decide)
  refine en_putR (o := 79) (q := 108) C hnam hsz hP hS gf_RX12_105 (fun q h => by cases h; exact ⟨rfl, rfl⟩) (by decide) (by decide +kernel) (by decide +kernel) rfl rfl dd_X12_init_254 (fun H locs hsz hP hS => ?_)
  have hF : zfrF 109 (rup (rup (rup (rup (rup (rup (rup (rup (rup (rup (rup (rup (rup (rup (rup (rup (rup (rup (rup (rup (rup (rup (rup (rup (rup (rup (rup (rup (rup (F) 79 5 80) 79 6 81) 79 7 82) 79 8 83) 79 9 84) 79 10 85) 79 11 86) 79 12 87) 79 13 88) 79 14 89) 79 18 90) 79 36 91) 79 37 92) 79 38 93) 79 39 94) 79 40 95) 79 41 96) 79 42 97) 79 43 98) 79 44 99) 79 45 100) 79 46 101) 79 47 102) 79 48 103) 79 49 104) 79 51 105) 79 52 106) 79 53 107) 79 54 108) := zfrF_up hF (by decide)
  refine lv_aload_n C.1 C.2.1 dd_X12_init_257 rfl (lv_at hl 0 rfl) ?_
  refine lv_sipush (v := 720) C.1 C.2.1 dd_X12_init_258 (by decide) ?_
  refine en_newa (sh := 20) (N := 720) (ty := .int) (atype := .int) C hsz hP hS hM rfl na_int (by decide +kernel) (by decide +kernel) (by decide) rfl ⟨0, rfl⟩ (fun h => h) (fun _ => rfl) (by decide) (by decide) (Nat.le_of_ble_eq_true rfl) (Nat.le_of_ble_eq_true rfl) (Nat.le_of_ble_eq_true rfl) dd_X12_init_261 (fun H hsz hP hS => ?_)
  have hM : zfrM 110 (zup (zup (zup (M) 79 3 3) 79 4 (-1)) 79 17 (-1)) := zfrM_le hM (by decide)
  have hF : zfrF 110 (rup (rup (rup (rup (rup (rup (rup (rup (rup (rup (rup (rup (rup (rup (rup (rup (rup (rup (rup (rup (rup (rup (rup (rup (rup (rup (rup (rup (rup (F) 79 5 80) 79 6 81) 79 7 82) 79 8 83) 79 9 84) 79 10 85) 79 11 86) 79 12 87) 79 13 88) 79 14 89) 79 18 90) 79 36 91) 79 37 92) 79 38 93) 79 39 94) 79 40 95) 79 41 96) 79 42 97) 79 43 98) 79 44 99) 79 45 100) 79 46 101) 79 47 102) 79 48 103) 79 49 104) 79 51 105) 79 52 106) 79 53 107) 79 54 108) := zfrF_le hF (by decide)
  refine en_putR (o := 79) (q := 109) C hnam hsz hP hS gf_RX12_108 (fun q h => by cases h; exact ⟨rfl, rfl⟩) (by decide) (by decide +kernel) (by decide +kernel) rfl rfl dd_X12_init_263 (fun H locs hsz hP hS => ?_)
  have hF : zfrF 110 (rup (rup (rup (rup (rup (rup (rup (rup (rup (rup (rup (rup (rup (rup (rup (rup (rup (rup (rup (rup (rup (rup (rup (rup (rup (rup (rup (rup (rup (rup (F) 79 5 80) 79 6 81) 79 7 82) 79 8 83) 79 9 84) 79 10 85) 79 11 86) 79 12 87) 79 13 88) 79 14 89) 79 18 90) 79 36 91) 79 37 92) 79 38 93) 79 39 94) 79 40 95) 79 41 96) 79 42 97) 79 43 98) 79 44 99) 79 45 100) 79 46 101) 79 47 102) 79 48 103) 79 49 104) 79 51 105) 79 52 106) 79 53 107) 79 54 108) 79 55 109) := zfrF_up hF (by decide)
  refine lv_aload_n C.1 C.2.1 dd_X12_init_266 rfl (lv_at hl 0 rfl) ?_
  refine lv_sipush (v := 720) C.1 C.2.1 dd_X12_init_267 (by decide) ?_
  refine en_newa (sh := 20) (N := 720) (ty := .int) (atype := .int) C hsz hP hS hM rfl na_int (by decide +kernel) (by decide +kernel) (by decide) rfl ⟨0, rfl⟩ (fun h => h) (fun _ => rfl) (by decide) (by decide) (Nat.le_of_ble_eq_true rfl) (Nat.le_of_ble_eq_true rfl) (Nat.le_of_ble_eq_true rfl) dd_X12_init_270 (fun H hsz hP hS => ?_)
  have hM : zfrM 111 (zup (zup (zup (M) 79 3 3) 79 4 (-1)) 79 17 (-1)) := zfrM_le hM (by decide)
  have hF : zfrF 111 (rup (rup (rup (rup (rup (rup (rup (rup (rup (rup (rup (rup (rup (rup (rup (rup (rup (rup (rup (rup (rup (rup (rup (rup (rup (rup (rup (rup (rup (rup (F) 79 5 80) 79 6 81) 79 7 82) 79 8 83) 79 9 84) 79 10 85) 79 11 86) 79 12 87) 79 13 88) 79 14 89) 79 18 90) 79 36 91) 79 37 92) 79 38 93) 79 39 94) 79 40 95) 79 41 96) 79 42 97) 79 43 98) 79 44 99) 79 45 100) 79 46 101) 79 47 102) 79 48 103) 79 49 104) 79 51 105) 79 52 106) 79 53 107) 79 54 108) 79 55 109) := zfrF_le hF (by decide)
  refine en_putR (o := 79) (q := 110) C hnam hsz hP hS gf_RX12_111 (fun q h => by cases h; exact ⟨rfl, rfl⟩) (by decide) (by decide +kernel) (by decide +kernel) rfl rfl dd_X12_init_272 (fun H locs hsz hP hS => ?_)
  have hF : zfrF 111 (rup (rup (rup (rup (rup (rup (rup (rup (rup (rup (rup (rup (rup (rup (rup (rup (rup (rup (rup (rup (rup (rup (rup (rup (rup (rup (rup (rup (rup (rup (rup (F) 79 5 80) 79 6 81) 79 7 82) 79 8 83) 79 9 84) 79 10 85) 79 11 86) 79 12 87) 79 13 88) 79 14 89) 79 18 90) 79 36 91) 79 37 92) 79 38 93) 79 39 94) 79 40 95) 79 41 96) 79 42 97) 79 43 98) 79 44 99) 79 45 100) 79 46 101) 79 47 102) 79 48 103) 79 49 104) 79 51 105) 79 52 106) 79 53 107) 79 54 108) 79 55 109) 79 56 110) := zfrF_up hF (by decide)
  refine lv_aload_n C.1 C.2.1 dd_X12_init_275 rfl (lv_at hl 0 rfl) ?_
  refine lv_sipush (v := 720) C.1 C.2.1 dd_X12_init_276 (by decide) ?_
  refine en_newa (sh := 20) (N := 720) (ty := .int) (atype := .int) C hsz hP hS hM rfl na_int (by decide +kernel) (by decide +kernel) (by decide) rfl ⟨0, rfl⟩ (fun h => h) (fun _ => rfl) (by decide) (by decide) (Nat.le_of_ble_eq_true rfl) (Nat.le_of_ble_eq_true rfl) (Nat.le_of_ble_eq_true rfl) dd_X12_init_279 (fun H hsz hP hS => ?_)
  have hM : zfrM 112 (zup (zup (zup (M) 79 3 3) 79 4 (-1)) 79 17 (-1)) := zfrM_le hM (by decide)
  have hF : zfrF 112 (rup (rup (rup (rup (rup (rup (rup (rup (rup (rup (rup (rup (rup (rup (rup (rup (rup (rup (rup (rup (rup (rup (rup (rup (rup (rup (rup (rup (rup (rup (rup (F) 79 5 80) 79 6 81) 79 7 82) 79 8 83) 79 9 84) 79 10 85) 79 11 86) 79 12 87) 79 13 88) 79 14 89) 79 18 90) 79 36 91) 79 37 92) 79 38 93) 79 39 94) 79 40 95) 79 41 96) 79 42 97) 79 43 98) 79 44 99) 79 45 100) 79 46 101) 79 47 102) 79 48 103) 79 49 104) 79 51 105) 79 52 106) 79 53 107) 79 54 108) 79 55 109) 79 56 110) := zfrF_le hF (by decide)
  refine en_putR (o := 79) (q := 111) C hnam hsz hP hS gf_RX12_114 (fun q h => by cases h; exact ⟨rfl, rfl⟩) (by decide) (by decide +kernel) (by decide +kernel) rfl rfl dd_X12_init_281 (fun H locs hsz hP hS => ?_)
  have hF : zfrF 112 (rup (rup (rup (rup (rup (rup (rup (rup (rup (rup (rup (rup (rup (rup (rup (rup (rup (rup (rup (rup (rup (rup (rup (rup (rup (rup (rup (rup (rup (rup (rup (rup (F) 79 5 80) 79 6 81) 79 7 82) 79 8 83) 79 9 84) 79 10 85) 79 11 86) 79 12 87) 79 13 88) 79 14 89) 79 18 90) 79 36 91) 79 37 92) 79 38 93) 79 39 94) 79 40 95) 79 41 96) 79 42 97) 79 43 98) 79 44 99) 79 45 100) 79 46 101) 79 47 102) 79 48 103) 79 49 104) 79 51 105) 79 52 106) 79 53 107) 79 54 108) 79 55 109) 79 56 110) 79 57 111) := zfrF_up hF (by decide)
  refine lv_aload_n C.1 C.2.1 dd_X12_init_284 rfl (lv_at hl 0 rfl) ?_
  refine lv_sipush (v := 720) C.1 C.2.1 dd_X12_init_285 (by decide) ?_
  refine en_newa (sh := 20) (N := 720) (ty := .int) (atype := .int) C hsz hP hS hM rfl na_int (by decide +kernel) (by decide +kernel) (by decide) rfl ⟨0, rfl⟩ (fun h => h) (fun _ => rfl) (by decide) (by decide) (Nat.le_of_ble_eq_true rfl) (Nat.le_of_ble_eq_true rfl) (Nat.le_of_ble_eq_true rfl) dd_X12_init_288 (fun H hsz hP hS => ?_)
  have hM : zfrM 113 (zup (zup (zup (M) 79 3 3) 79 4 (-1)) 79 17 (-1)) := zfrM_le hM (by decide)
  have hF : zfrF 113 (rup (rup (rup (rup (rup (rup (rup (rup (rup (rup (rup (rup (rup (rup (rup (rup (rup (rup (rup (rup (rup (rup (rup (rup (rup (rup (rup (rup (rup (rup (rup (rup (F) 79 5 80) 79 6 81) 79 7 82) 79 8 83) 79 9 84) 79 10 85) 79 11 86) 79 12 87) 79 13 88) 79 14 89) 79 18 90) 79 36 91) 79 37 92) 79 38 93) 79 39 94) 79 40 95) 79 41 96) 79 42 97) 79 43 98) 79 44 99) 79 45 100) 79 46 101) 79 47 102) 79 48 103) 79 49 104) 79 51 105) 79 52 106) 79 53 107) 79 54 108) 79 55 109) 79 56 110) 79 57 111) := zfrF_le hF (by decide)
  refine en_putR (o := 79) (q := 112) C hnam hsz hP hS gf_RX12_117 (fun q h => by cases h; exact ⟨rfl, rfl⟩) (by decide) (by decide +kernel) (by decide +kernel) rfl rfl dd_X12_init_290 (fun H locs hsz hP hS => ?_)
  have hF : zfrF 113 (rup (rup (rup (rup (rup (rup (rup (rup (rup (rup (rup (rup (rup (rup (rup (rup (rup (rup (rup (rup (rup (rup (rup (rup (rup (rup (rup (rup (rup (rup (rup (rup (rup (F) 79 5 80) 79 6 81) 79 7 82) 79 8 83) 79 9 84) 79 10 85) 79 11 86) 79 12 87) 79 13 88) 79 14 89) 79 18 90) 79 36 91) 79 37 92) 79 38 93) 79 39 94) 79 40 95) 79 41 96) 79 42 97) 79 43 98) 79 44 99) 79 45 100) 79 46 101) 79 47 102) 79 48 103) 79 49 104) 79 51 105) 79 52 106) 79 53 107) 79 54 108) 79 55 109) 79 56 110) 79 57 111) 79 58 112) := zfrF_up hF (by decide)
  refine lv_aload_n C.1 C.2.1 dd_X12_init_293 rfl (lv_at hl 0 rfl) ?_
  refine lv_bipush (v := 8) C.1 C.2.1 dd_X12_init_294 (by decide) ?_
  refine en_newa (sh := 20) (N := 8) (ty := .int) (atype := .int) C hsz hP hS hM rfl na_int (by decide +kernel) (by decide +kernel) (by decide) rfl ⟨0, rfl⟩ (fun h => h) (fun _ => rfl) (by decide) (by decide) (Nat.le_of_ble_eq_true rfl) (Nat.le_of_ble_eq_true rfl) (Nat.le_of_ble_eq_true rfl) dd_X12_init_296 (fun H hsz hP hS => ?_)
  have hM : zfrM 114 (zup (zup (zup (M) 79 3 3) 79 4 (-1)) 79 17 (-1)) := zfrM_le hM (by decide)
  have hF : zfrF 114 (rup (rup (rup (rup (rup (rup (rup (rup (rup (rup (rup (rup (rup (rup (rup (rup (rup (rup (rup (rup (rup (rup (rup (rup (rup (rup (rup (rup (rup (rup (rup (rup (rup (F) 79 5 80) 79 6 81) 79 7 82) 79 8 83) 79 9 84) 79 10 85) 79 11 86) 79 12 87) 79 13 88) 79 14 89) 79 18 90) 79 36 91) 79 37 92) 79 38 93) 79 39 94) 79 40 95) 79 41 96) 79 42 97) 79 43 98) 79 44 99) 79 45 100) 79 46 101) 79 47 102) 79 48 103) 79 49 104) 79 51 105) 79 52 106) 79 53 107) 79 54 108) 79 55 109) 79 56 110) 79 57 111) 79 58 112) := zfrF_le hF (by decide)
  refine en_putR (o := 79) (q := 113) C hnam hsz hP hS gf_RX12_120 (fun q h => by cases h; exact ⟨rfl, rfl⟩) (by decide) (by decide +kernel) (by decide +kernel) rfl rfl dd_X12_init_298 (fun H locs hsz hP hS => ?_)
  have hF : zfrF 114 (rup (rup (rup (rup (rup (rup (rup (rup (rup (rup (rup (rup (rup (rup (rup (rup (rup (rup (rup (rup (rup (rup (rup (rup (rup (rup (rup (rup (rup (rup (rup (rup (rup (rup (F) 79 5 80) 79 6 81) 79 7 82) 79 8 83) 79 9 84) 79 10 85) 79 11 86) 79 12 87) 79 13 88) 79 14 89) 79 18 90) 79 36 91) 79 37 92) 79 38 93) 79 39 94) 79 40 95) 79 41 96) 79 42 97) 79 43 98) 79 44 99) 79 45 100) 79 46 101) 79 47 102) 79 48 103) 79 49 104) 79 51 105) 79 52 106) 79 53 107) 79 54 108) 79 55 109) 79 56 110) 79 57 111) 79 58 112) 79 59 113) := zfrF_up hF (by decide)
  refine lv_aload_n C.1 C.2.1 dd_X12_init_301 rfl (lv_at hl 0 rfl) ?_
  refine lv_iconst (v := 5) C.1 C.2.1 dd_X12_init_302 (by decide) ?_
  refine en_newa (sh := 20) (N := 5) (ty := .int) (atype := .int) C hsz hP hS hM rfl na_int (by decide +kernel) (by decide +kernel) (by decide) rfl ⟨0, rfl⟩ (fun h => h) (fun _ => rfl) (by decide) (by decide) (Nat.le_of_ble_eq_true rfl) (Nat.le_of_ble_eq_true rfl) (Nat.le_of_ble_eq_true rfl) dd_X12_init_303 (fun H hsz hP hS => ?_)
  have hM : zfrM 115 (zup (zup (zup (M) 79 3 3) 79 4 (-1)) 79 17 (-1)) := zfrM_le hM (by decide)
  have hF : zfrF 115 (rup (rup (rup (rup (rup (rup (rup (rup (rup (rup (rup (rup (rup (rup (rup (rup (rup (rup (rup (rup (rup (rup (rup (rup (rup (rup (rup (rup (rup (rup (rup (rup (rup (rup (F) 79 5 80) 79 6 81) 79 7 82) 79 8 83) 79 9 84) 79 10 85) 79 11 86) 79 12 87) 79 13 88) 79 14 89) 79 18 90) 79 36 91) 79 37 92) 79 38 93) 79 39 94) 79 40 95) 79 41 96) 79 42 97) 79 43 98) 79 44 99) 79 45 100) 79 46 101) 79 47 102) 79 48 103) 79 49 104) 79 51 105) 79 52 106) 79 53 107) 79 54 108) 79 55 109) 79 56 110) 79 57 111) 79 58 112) 79 59 113) := zfrF_le hF (by decide)
  refine en_putR (o := 79) (q := 114) C hnam hsz hP hS gf_RX12_123 (fun q h => by cases h; exact ⟨rfl, rfl⟩) (by decide) (by decide +kernel) (by decide +kernel) rfl rfl dd_X12_init_305 (fun H locs hsz hP hS => ?_)
  have hF : zfrF 115 (rup (rup (rup (rup (rup (rup (rup (rup (rup (rup (rup (rup (rup (rup (rup (rup (rup (rup (rup (rup (rup (rup (rup (rup (rup (rup (rup (rup (rup (rup (rup (rup (rup (rup (rup (F) 79 5 80) 79 6 81) 79 7 82) 79 8 83) 79 9 84) 79 10 85) 79 11 86) 79 12 87) 79 13 88) 79 14 89) 79 18 90) 79 36 91) 79 37 92) 79 38 93) 79 39 94) 79 40 95) 79 41 96) 79 42 97) 79 43 98) 79 44 99) 79 45 100) 79 46 101) 79 47 102) 79 48 103) 79 49 104) 79 51 105) 79 52 106) 79 53 107) 79 54 108) 79 55 109) 79 56 110) 79 57 111) 79 58 112) 79 59 113) 79 61 114) := zfrF_up hF (by decide)
  refine lv_aload_n C.1 C.2.1 dd_X12_init_308 rfl (lv_at hl 0 rfl) ?_
  refine lv_iconst (v := 5) C.1 C.2.1 dd_X12_init_309 (by decide) ?_
  refine en_newa (sh := 20) (N := 5) (ty := .int) (atype := .int) C hsz hP hS hM rfl na_int (by decide +kernel) (by decide +kernel) (by decide) rfl ⟨0, rfl⟩ (fun h => h) (fun _ => rfl) (by decide) (by decide) (Nat.le_of_ble_eq_true rfl) (Nat.le_of_ble_eq_true rfl) (Nat.le_of_ble_eq_true rfl) dd_X12_init_310 (fun H hsz hP hS => ?_)
  have hM : zfrM 116 (zup (zup (zup (M) 79 3 3) 79 4 (-1)) 79 17 (-1)) := zfrM_le hM (by decide)
  have hF : zfrF 116 (rup (rup (rup (rup (rup (rup (rup (rup (rup (rup (rup (rup (rup (rup (rup (rup (rup (rup (rup (rup (rup (rup (rup (rup (rup (rup (rup (rup (rup (rup (rup (rup (rup (rup (rup (F) 79 5 80) 79 6 81) 79 7 82) 79 8 83) 79 9 84) 79 10 85) 79 11 86) 79 12 87) 79 13 88) 79 14 89) 79 18 90) 79 36 91) 79 37 92) 79 38 93) 79 39 94) 79 40 95) 79 41 96) 79 42 97) 79 43 98) 79 44 99) 79 45 100) 79 46 101) 79 47 102) 79 48 103) 79 49 104) 79 51 105) 79 52 106) 79 53 107) 79 54 108) 79 55 109) 79 56 110) 79 57 111) 79 58 112) 79 59 113) 79 61 114) := zfrF_le hF (by decide)
  refine en_putR (o := 79) (q := 115) C hnam hsz hP hS gf_RX12_126 (fun q h => by cases h; exact ⟨rfl, rfl⟩) (by decide) (by decide +kernel) (by decide +kernel) rfl rfl dd_X12_init_312 (fun H locs hsz hP hS => ?_)
  have hF : zfrF 116 (rup (rup (rup (rup (rup (rup (rup (rup (rup (rup (rup (rup (rup (rup (rup (rup (rup (rup (rup (rup (rup (rup (rup (rup (rup (rup (rup (rup (rup (rup (rup (rup (rup (rup (rup (rup (F) 79 5 80) 79 6 81) 79 7 82) 79 8 83) 79 9 84) 79 10 85) 79 11 86) 79 12 87) 79 13 88) 79 14 89) 79 18 90) 79 36 91) 79 37 92) 79 38 93) 79 39 94) 79 40 95) 79 41 96) 79 42 97) 79 43 98) 79 44 99) 79 45 100) 79 46 101) 79 47 102) 79 48 103) 79 49 104) 79 51 105) 79 52 106) 79 53 107) 79 54 108) 79 55 109) 79 56 110) 79 57 111) 79 58 112) 79 59 113) 79 61 114) 79 62 115) := zfrF_up hF (by decide)
  refine lv_aload_n C.1 C.2.1 dd_X12_init_315 rfl (lv_at hl 0 rfl) ?_
  refine lv_bipush (v := 16) C.1 C.2.1 dd_X12_init_316 (by decide) ?_
  refine en_newa (sh := 20) (N := 16) (ty := .int) (atype := .int) C hsz hP hS hM rfl na_int (by decide +kernel) (by decide +kernel) (by decide) rfl ⟨0, rfl⟩ (fun h => h) (fun _ => rfl) (by decide) (by decide) (Nat.le_of_ble_eq_true rfl) (Nat.le_of_ble_eq_true rfl) (Nat.le_of_ble_eq_true rfl) dd_X12_init_318 (fun H hsz hP hS => ?_)
  have hM : zfrM 117 (zup (zup (zup (M) 79 3 3) 79 4 (-1)) 79 17 (-1)) := zfrM_le hM (by decide)
  have hF : zfrF 117 (rup (rup (rup (rup (rup (rup (rup (rup (rup (rup (rup (rup (rup (rup (rup (rup (rup (rup (rup (rup (rup (rup (rup (rup (rup (rup (rup (rup (rup (rup (rup (rup (rup (rup (rup (rup (F) 79 5 80) 79 6 81) 79 7 82) 79 8 83) 79 9 84) 79 10 85) 79 11 86) 79 12 87) 79 13 88) 79 14 89) 79 18 90) 79 36 91) 79 37 92) 79 38 93) 79 39 94) 79 40 95) 79 41 96) 79 42 97) 79 43 98) 79 44 99) 79 45 100) 79 46 101) 79 47 102) 79 48 103) 79 49 104) 79 51 105) 79 52 106) 79 53 107) 79 54 108) 79 55 109) 79 56 110) 79 57 111) 79 58 112) 79 59 113) 79 61 114) 79 62 115) := zfrF_le hF (by decide)
  refine en_putR (o := 79) (q := 116) C hnam hsz hP hS gf_RX12_129 (fun q h => by cases h; exact ⟨rfl, rfl⟩) (by decide) (by decide +kernel) (by decide +kernel) rfl rfl dd_X12_init_320 (fun H locs hsz hP hS => ?_)
  have hF : zfrF 117 (rup (rup (rup (rup (rup (rup (rup (rup (rup (rup (rup (rup (rup (rup (rup (rup (rup (rup (rup (rup (rup (rup (rup (rup (rup (rup (rup (rup (rup (rup (rup (rup (rup (rup (rup (rup (rup (F) 79 5 80) 79 6 81) 79 7 82) 79 8 83) 79 9 84) 79 10 85) 79 11 86) 79 12 87) 79 13 88) 79 14 89) 79 18 90) 79 36 91) 79 37 92) 79 38 93) 79 39 94) 79 40 95) 79 41 96) 79 42 97) 79 43 98) 79 44 99) 79 45 100) 79 46 101) 79 47 102) 79 48 103) 79 49 104) 79 51 105) 79 52 106) 79 53 107) 79 54 108) 79 55 109) 79 56 110) 79 57 111) 79 58 112) 79 59 113) 79 61 114) 79 62 115) 79 65 116) := zfrF_up hF (by decide)
  refine lv_aload_n C.1 C.2.1 dd_X12_init_323 rfl (lv_at hl 0 rfl) ?_
  refine lv_bipush (v := 28) C.1 C.2.1 dd_X12_init_324 (by decide) ?_
  refine en_newa (sh := 20) (N := 28) (ty := .int) (atype := .int) C hsz hP hS hM rfl na_int (by decide +kernel) (by decide +kernel) (by decide) rfl ⟨0, rfl⟩ (fun h => h) (fun _ => rfl) (by decide) (by decide) (Nat.le_of_ble_eq_true rfl) (Nat.le_of_ble_eq_true rfl) (Nat.le_of_ble_eq_true rfl) dd_X12_init_326 (fun H hsz hP hS => ?_)
  have hM : zfrM 118 (zup (zup (zup (M) 79 3 3) 79 4 (-1)) 79 17 (-1)) := zfrM_le hM (by decide)
  have hF : zfrF 118 (rup (rup (rup (rup (rup (rup (rup (rup (rup (rup (rup (rup (rup (rup (rup (rup (rup (rup (rup (rup (rup (rup (rup (rup (rup (rup (rup (rup (rup (rup (rup (rup (rup (rup (rup (rup (rup (F) 79 5 80) 79 6 81) 79 7 82) 79 8 83) 79 9 84) 79 10 85) 79 11 86) 79 12 87) 79 13 88) 79 14 89) 79 18 90) 79 36 91) 79 37 92) 79 38 93) 79 39 94) 79 40 95) 79 41 96) 79 42 97) 79 43 98) 79 44 99) 79 45 100) 79 46 101) 79 47 102) 79 48 103) 79 49 104) 79 51 105) 79 52 106) 79 53 107) 79 54 108) 79 55 109) 79 56 110) 79 57 111) 79 58 112) 79 59 113) 79 61 114) 79 62 115) 79 65 116) := zfrF_le hF (by decide)
  refine en_putR (o := 79) (q := 117) C hnam hsz hP hS gf_RX12_132 (fun q h => by cases h; exact ⟨rfl, rfl⟩) (by decide) (by decide +kernel) (by decide +kernel) rfl rfl dd_X12_init_328 (fun H locs hsz hP hS => ?_)
  have hF : zfrF 118 (rup (rup (rup (rup (rup (rup (rup (rup (rup (rup (rup (rup (rup (rup (rup (rup (rup (rup (rup (rup (rup (rup (rup (rup (rup (rup (rup (rup (rup (rup (rup (rup (rup (rup (rup (rup (rup (rup (F) 79 5 80) 79 6 81) 79 7 82) 79 8 83) 79 9 84) 79 10 85) 79 11 86) 79 12 87) 79 13 88) 79 14 89) 79 18 90) 79 36 91) 79 37 92) 79 38 93) 79 39 94) 79 40 95) 79 41 96) 79 42 97) 79 43 98) 79 44 99) 79 45 100) 79 46 101) 79 47 102) 79 48 103) 79 49 104) 79 51 105) 79 52 106) 79 53 107) 79 54 108) 79 55 109) 79 56 110) 79 57 111) 79 58 112) 79 59 113) 79 61 114) 79 62 115) 79 65 116) 79 66 117) := zfrF_up hF (by decide)
  refine lv_aload_n C.1 C.2.1 dd_X12_init_331 rfl (lv_at hl 0 rfl) ?_
  refine lv_iconst (v := 3) C.1 C.2.1 dd_X12_init_332 (by decide) ?_
  refine en_newa (sh := 20) (N := 3) (ty := .int) (atype := .int) C hsz hP hS hM rfl na_int (by decide +kernel) (by decide +kernel) (by decide) rfl ⟨0, rfl⟩ (fun h => h) (fun _ => rfl) (by decide) (by decide) (Nat.le_of_ble_eq_true rfl) (Nat.le_of_ble_eq_true rfl) (Nat.le_of_ble_eq_true rfl) dd_X12_init_333 (fun H hsz hP hS => ?_)
  have hM : zfrM 119 (zup (zup (zup (M) 79 3 3) 79 4 (-1)) 79 17 (-1)) := zfrM_le hM (by decide)
  have hF : zfrF 119 (rup (rup (rup (rup (rup (rup (rup (rup (rup (rup (rup (rup (rup (rup (rup (rup (rup (rup (rup (rup (rup (rup (rup (rup (rup (rup (rup (rup (rup (rup (rup (rup (rup (rup (rup (rup (rup (rup (F) 79 5 80) 79 6 81) 79 7 82) 79 8 83) 79 9 84) 79 10 85) 79 11 86) 79 12 87) 79 13 88) 79 14 89) 79 18 90) 79 36 91) 79 37 92) 79 38 93) 79 39 94) 79 40 95) 79 41 96) 79 42 97) 79 43 98) 79 44 99) 79 45 100) 79 46 101) 79 47 102) 79 48 103) 79 49 104) 79 51 105) 79 52 106) 79 53 107) 79 54 108) 79 55 109) 79 56 110) 79 57 111) 79 58 112) 79 59 113) 79 61 114) 79 62 115) 79 65 116) 79 66 117) := zfrF_le hF (by decide)
  refine en_putR (o := 79) (q := 118) C hnam hsz hP hS gf_RX12_135 (fun q h => by cases h; exact ⟨rfl, rfl⟩) (by decide) (by decide +kernel) (by decide +kernel) rfl rfl dd_X12_init_335 (fun H locs hsz hP hS => ?_)
  have hF : zfrF 119 (rup (rup (rup (rup (rup (rup (rup (rup (rup (rup (rup (rup (rup (rup (rup (rup (rup (rup (rup (rup (rup (rup (rup (rup (rup (rup (rup (rup (rup (rup (rup (rup (rup (rup (rup (rup (rup (rup (rup (F) 79 5 80) 79 6 81) 79 7 82) 79 8 83) 79 9 84) 79 10 85) 79 11 86) 79 12 87) 79 13 88) 79 14 89) 79 18 90) 79 36 91) 79 37 92) 79 38 93) 79 39 94) 79 40 95) 79 41 96) 79 42 97) 79 43 98) 79 44 99) 79 45 100) 79 46 101) 79 47 102) 79 48 103) 79 49 104) 79 51 105) 79 52 106) 79 53 107) 79 54 108) 79 55 109) 79 56 110) 79 57 111) 79 58 112) 79 59 113) 79 61 114) 79 62 115) 79 65 116) 79 66 117) 79 67 118) := zfrF_up hF (by decide)
  refine lv_aload_n C.1 C.2.1 dd_X12_init_338 rfl (lv_at hl 0 rfl) ?_
  refine lv_iconst (v := 3) C.1 C.2.1 dd_X12_init_339 (by decide) ?_
  refine en_newa (sh := 20) (N := 3) (ty := .int) (atype := .int) C hsz hP hS hM rfl na_int (by decide +kernel) (by decide +kernel) (by decide) rfl ⟨0, rfl⟩ (fun h => h) (fun _ => rfl) (by decide) (by decide) (Nat.le_of_ble_eq_true rfl) (Nat.le_of_ble_eq_true rfl) (Nat.le_of_ble_eq_true rfl) dd_X12_init_340 (fun H hsz hP hS => ?_)
  have hM : zfrM 120 (zup (zup (zup (M) 79 3 3) 79 4 (-1)) 79 17 (-1)) := zfrM_le hM (by decide)
  have hF : zfrF 120 (rup (rup (rup (rup (rup (rup (rup (rup (rup (rup (rup (rup (rup (rup (rup (rup (rup (rup (rup (rup (rup (rup (rup (rup (rup (rup (rup (rup (rup (rup (rup (rup (rup (rup (rup (rup (rup (rup (rup (F) 79 5 80) 79 6 81) 79 7 82) 79 8 83) 79 9 84) 79 10 85) 79 11 86) 79 12 87) 79 13 88) 79 14 89) 79 18 90) 79 36 91) 79 37 92) 79 38 93) 79 39 94) 79 40 95) 79 41 96) 79 42 97) 79 43 98) 79 44 99) 79 45 100) 79 46 101) 79 47 102) 79 48 103) 79 49 104) 79 51 105) 79 52 106) 79 53 107) 79 54 108) 79 55 109) 79 56 110) 79 57 111) 79 58 112) 79 59 113) 79 61 114) 79 62 115) 79 65 116) 79 66 117) 79 67 118) := zfrF_le hF (by decide)
  refine en_putR (o := 79) (q := 119) C hnam hsz hP hS gf_RX12_138 (fun q h => by cases h; exact ⟨rfl, rfl⟩) (by decide) (by decide +kernel) (by decide +kernel) rfl rfl dd_X12_init_342 (fun H locs hsz hP hS => ?_)
  have hF : zfrF 120 (rup (rup (rup (rup (rup (rup (rup (rup (rup (rup (rup (rup (rup (rup (rup (rup (rup (rup (rup (rup (rup (rup (rup (rup (rup (rup (rup (rup (rup (rup (rup (rup (rup (rup (rup (rup (rup (rup (rup (rup (F) 79 5 80) 79 6 81) 79 7 82) 79 8 83) 79 9 84) 79 10 85) 79 11 86) 79 12 87) 79 13 88) 79 14 89) 79 18 90) 79 36 91) 79 37 92) 79 38 93) 79 39 94) 79 40 95) 79 41 96) 79 42 97) 79 43 98) 79 44 99) 79 45 100) 79 46 101) 79 47 102) 79 48 103) 79 49 104) 79 51 105) 79 52 106) 79 53 107) 79 54 108) 79 55 109) 79 56 110) 79 57 111) 79 58 112) 79 59 113) 79 61 114) 79 62 115) 79 65 116) 79 66 117) 79 67 118) 79 68 119) := zfrF_up hF (by decide)
  refine lv_aload_n C.1 C.2.1 dd_X12_init_345 rfl (lv_at hl 0 rfl) ?_
  refine lv_bipush (v := 64) C.1 C.2.1 dd_X12_init_346 (by decide) ?_
  refine en_newa (sh := 20) (N := 64) (ty := .int) (atype := .int) C hsz hP hS hM rfl na_int (by decide +kernel) (by decide +kernel) (by decide) rfl ⟨0, rfl⟩ (fun h => h) (fun _ => rfl) (by decide) (by decide) (Nat.le_of_ble_eq_true rfl) (Nat.le_of_ble_eq_true rfl) (Nat.le_of_ble_eq_true rfl) dd_X12_init_348 (fun H hsz hP hS => ?_)
  have hM : zfrM 121 (zup (zup (zup (M) 79 3 3) 79 4 (-1)) 79 17 (-1)) := zfrM_le hM (by decide)
  have hF : zfrF 121 (rup (rup (rup (rup (rup (rup (rup (rup (rup (rup (rup (rup (rup (rup (rup (rup (rup (rup (rup (rup (rup (rup (rup (rup (rup (rup (rup (rup (rup (rup (rup (rup (rup (rup (rup (rup (rup (rup (rup (rup (F) 79 5 80) 79 6 81) 79 7 82) 79 8 83) 79 9 84) 79 10 85) 79 11 86) 79 12 87) 79 13 88) 79 14 89) 79 18 90) 79 36 91) 79 37 92) 79 38 93) 79 39 94) 79 40 95) 79 41 96) 79 42 97) 79 43 98) 79 44 99) 79 45 100) 79 46 101) 79 47 102) 79 48 103) 79 49 104) 79 51 105) 79 52 106) 79 53 107) 79 54 108) 79 55 109) 79 56 110) 79 57 111) 79 58 112) 79 59 113) 79 61 114) 79 62 115) 79 65 116) 79 66 117) 79 67 118) 79 68 119) := zfrF_le hF (by decide)
  refine en_putR (o := 79) (q := 120) C hnam hsz hP hS gf_RX12_141 (fun q h => by cases h; exact ⟨rfl, rfl⟩) (by decide) (by decide +kernel) (by decide +kernel) rfl rfl dd_X12_init_350 (fun H locs hsz hP hS => ?_)
  have hF : zfrF 121 (rup (rup (rup (rup (rup (rup (rup (rup (rup (rup (rup (rup (rup (rup (rup (rup (rup (rup (rup (rup (rup (rup (rup (rup (rup (rup (rup (rup (rup (rup (rup (rup (rup (rup (rup (rup (rup (rup (rup (rup (rup (F) 79 5 80) 79 6 81) 79 7 82) 79 8 83) 79 9 84) 79 10 85) 79 11 86) 79 12 87) 79 13 88) 79 14 89) 79 18 90) 79 36 91) 79 37 92) 79 38 93) 79 39 94) 79 40 95) 79 41 96) 79 42 97) 79 43 98) 79 44 99) 79 45 100) 79 46 101) 79 47 102) 79 48 103) 79 49 104) 79 51 105) 79 52 106) 79 53 107) 79 54 108) 79 55 109) 79 56 110) 79 57 111) 79 58 112) 79 59 113) 79 61 114) 79 62 115) 79 65 116) 79 66 117) 79 67 118) 79 68 119) 79 69 120) := zfrF_up hF (by decide)
  refine lv_aload_n C.1 C.2.1 dd_X12_init_353 rfl (lv_at hl 0 rfl) ?_
  refine lv_bipush (v := 73) C.1 C.2.1 dd_X12_init_354 (by decide) ?_
  refine en_newa (sh := 20) (N := 73) (ty := .int) (atype := .int) C hsz hP hS hM rfl na_int (by decide +kernel) (by decide +kernel) (by decide) rfl ⟨0, rfl⟩ (fun h => h) (fun _ => rfl) (by decide) (by decide) (Nat.le_of_ble_eq_true rfl) (Nat.le_of_ble_eq_true rfl) (Nat.le_of_ble_eq_true rfl) dd_X12_init_356 (fun H hsz hP hS => ?_)
  have hM : zfrM 122 (zup (zup (zup (M) 79 3 3) 79 4 (-1)) 79 17 (-1)) := zfrM_le hM (by decide)
  have hF : zfrF 122 (rup (rup (rup (rup (rup (rup (rup (rup (rup (rup (rup (rup (rup (rup (rup (rup (rup (rup (rup (rup (rup (rup (rup (rup (rup (rup (rup (rup (rup (rup (rup (rup (rup (rup (rup (rup (rup (rup (rup (rup (rup (F) 79 5 80) 79 6 81) 79 7 82) 79 8 83) 79 9 84) 79 10 85) 79 11 86) 79 12 87) 79 13 88) 79 14 89) 79 18 90) 79 36 91) 79 37 92) 79 38 93) 79 39 94) 79 40 95) 79 41 96) 79 42 97) 79 43 98) 79 44 99) 79 45 100) 79 46 101) 79 47 102) 79 48 103) 79 49 104) 79 51 105) 79 52 106) 79 53 107) 79 54 108) 79 55 109) 79 56 110) 79 57 111) 79 58 112) 79 59 113) 79 61 114) 79 62 115) 79 65 116) 79 66 117) 79 67 118) 79 68 119) 79 69 120) := zfrF_le hF (by decide)
  refine en_putR (o := 79) (q := 121) C hnam hsz hP hS gf_RX12_144 (fun q h => by cases h; exact ⟨rfl, rfl⟩) (by decide) (by decide +kernel) (by decide +kernel) rfl rfl dd_X12_init_358 (fun H locs hsz hP hS => ?_)
  have hF : zfrF 122 (rup (rup (rup (rup (rup (rup (rup (rup (rup (rup (rup (rup (rup (rup (rup (rup (rup (rup (rup (rup (rup (rup (rup (rup (rup (rup (rup (rup (rup (rup (rup (rup (rup (rup (rup (rup (rup (rup (rup (rup (rup (rup (F) 79 5 80) 79 6 81) 79 7 82) 79 8 83) 79 9 84) 79 10 85) 79 11 86) 79 12 87) 79 13 88) 79 14 89) 79 18 90) 79 36 91) 79 37 92) 79 38 93) 79 39 94) 79 40 95) 79 41 96) 79 42 97) 79 43 98) 79 44 99) 79 45 100) 79 46 101) 79 47 102) 79 48 103) 79 49 104) 79 51 105) 79 52 106) 79 53 107) 79 54 108) 79 55 109) 79 56 110) 79 57 111) 79 58 112) 79 59 113) 79 61 114) 79 62 115) 79 65 116) 79 66 117) 79 67 118) 79 68 119) 79 69 120) 79 76 121) := zfrF_up hF (by decide)
  refine lv_aload_n C.1 C.2.1 dd_X12_init_361 rfl (lv_at hl 0 rfl) ?_
  refine lv_sipush (v := 2920) C.1 C.2.1 dd_X12_init_362 (by decide) ?_
  refine en_newa (sh := 20) (N := 2920) (ty := .int) (atype := .int) C hsz hP hS hM rfl na_int (by decide +kernel) (by decide +kernel) (by decide) rfl ⟨0, rfl⟩ (fun h => h) (fun _ => rfl) (by decide) (by decide) (Nat.le_of_ble_eq_true rfl) (Nat.le_of_ble_eq_true rfl) (Nat.le_of_ble_eq_true rfl) dd_X12_init_365 (fun H hsz hP hS => ?_)
  have hM : zfrM 123 (zup (zup (zup (M) 79 3 3) 79 4 (-1)) 79 17 (-1)) := zfrM_le hM (by decide)
  have hF : zfrF 123 (rup (rup (rup (rup (rup (rup (rup (rup (rup (rup (rup (rup (rup (rup (rup (rup (rup (rup (rup (rup (rup (rup (rup (rup (rup (rup (rup (rup (rup (rup (rup (rup (rup (rup (rup (rup (rup (rup (rup (rup (rup (rup (F) 79 5 80) 79 6 81) 79 7 82) 79 8 83) 79 9 84) 79 10 85) 79 11 86) 79 12 87) 79 13 88) 79 14 89) 79 18 90) 79 36 91) 79 37 92) 79 38 93) 79 39 94) 79 40 95) 79 41 96) 79 42 97) 79 43 98) 79 44 99) 79 45 100) 79 46 101) 79 47 102) 79 48 103) 79 49 104) 79 51 105) 79 52 106) 79 53 107) 79 54 108) 79 55 109) 79 56 110) 79 57 111) 79 58 112) 79 59 113) 79 61 114) 79 62 115) 79 65 116) 79 66 117) 79 67 118) 79 68 119) 79 69 120) 79 76 121) := zfrF_le hF (by decide)
  refine en_putR (o := 79) (q := 122) C hnam hsz hP hS gf_RX12_147 (fun q h => by cases h; exact ⟨rfl, rfl⟩) (by decide) (by decide +kernel) (by decide +kernel) rfl rfl dd_X12_init_367 (fun H locs hsz hP hS => ?_)
  have hF : zfrF 123 (rup (rup (rup (rup (rup (rup (rup (rup (rup (rup (rup (rup (rup (rup (rup (rup (rup (rup (rup (rup (rup (rup (rup (rup (rup (rup (rup (rup (rup (rup (rup (rup (rup (rup (rup (rup (rup (rup (rup (rup (rup (rup (rup (F) 79 5 80) 79 6 81) 79 7 82) 79 8 83) 79 9 84) 79 10 85) 79 11 86) 79 12 87) 79 13 88) 79 14 89) 79 18 90) 79 36 91) 79 37 92) 79 38 93) 79 39 94) 79 40 95) 79 41 96) 79 42 97) 79 43 98) 79 44 99) 79 45 100) 79 46 101) 79 47 102) 79 48 103) 79 49 104) 79 51 105) 79 52 106) 79 53 107) 79 54 108) 79 55 109) 79 56 110) 79 57 111) 79 58 112) 79 59 113) 79 61 114) 79 62 115) 79 65 116) 79 66 117) 79 67 118) 79 68 119) 79 69 120) 79 76 121) 79 77 122) := zfrF_up hF (by decide)
  refine lv_aload_n C.1 C.2.1 dd_X12_init_370 rfl (lv_at hl 0 rfl) ?_
  refine lv_bipush (v := 16) C.1 C.2.1 dd_X12_init_371 (by decide) ?_
  refine en_newa (sh := 20) (N := 16) (ty := .int) (atype := .int) C hsz hP hS hM rfl na_int (by decide +kernel) (by decide +kernel) (by decide) rfl ⟨0, rfl⟩ (fun h => h) (fun _ => rfl) (by decide) (by decide) (Nat.le_of_ble_eq_true rfl) (Nat.le_of_ble_eq_true rfl) (Nat.le_of_ble_eq_true rfl) dd_X12_init_373 (fun H hsz hP hS => ?_)
  have hM : zfrM 124 (zup (zup (zup (M) 79 3 3) 79 4 (-1)) 79 17 (-1)) := zfrM_le hM (by decide)
  have hF : zfrF 124 (rup (rup (rup (rup (rup (rup (rup (rup (rup (rup (rup (rup (rup (rup (rup (rup (rup (rup (rup (rup (rup (rup (rup (rup (rup (rup (rup (rup (rup (rup (rup (rup (rup (rup (rup (rup (rup (rup (rup (rup (rup (rup (rup (F) 79 5 80) 79 6 81) 79 7 82) 79 8 83) 79 9 84) 79 10 85) 79 11 86) 79 12 87) 79 13 88) 79 14 89) 79 18 90) 79 36 91) 79 37 92) 79 38 93) 79 39 94) 79 40 95) 79 41 96) 79 42 97) 79 43 98) 79 44 99) 79 45 100) 79 46 101) 79 47 102) 79 48 103) 79 49 104) 79 51 105) 79 52 106) 79 53 107) 79 54 108) 79 55 109) 79 56 110) 79 57 111) 79 58 112) 79 59 113) 79 61 114) 79 62 115) 79 65 116) 79 66 117) 79 67 118) 79 68 119) 79 69 120) 79 76 121) 79 77 122) := zfrF_le hF (by decide)
  refine en_putR (o := 79) (q := 123) C hnam hsz hP hS gf_RX12_150 (fun q h => by cases h; exact ⟨rfl, rfl⟩) (by decide) (by decide +kernel) (by decide +kernel) rfl rfl dd_X12_init_375 (fun H locs hsz hP hS => ?_)
  have hF : zfrF 124 (rup (rup (rup (rup (rup (rup (rup (rup (rup (rup (rup (rup (rup (rup (rup (rup (rup (rup (rup (rup (rup (rup (rup (rup (rup (rup (rup (rup (rup (rup (rup (rup (rup (rup (rup (rup (rup (rup (rup (rup (rup (rup (rup (rup (F) 79 5 80) 79 6 81) 79 7 82) 79 8 83) 79 9 84) 79 10 85) 79 11 86) 79 12 87) 79 13 88) 79 14 89) 79 18 90) 79 36 91) 79 37 92) 79 38 93) 79 39 94) 79 40 95) 79 41 96) 79 42 97) 79 43 98) 79 44 99) 79 45 100) 79 46 101) 79 47 102) 79 48 103) 79 49 104) 79 51 105) 79 52 106) 79 53 107) 79 54 108) 79 55 109) 79 56 110) 79 57 111) 79 58 112) 79 59 113) 79 61 114) 79 62 115) 79 65 116) 79 66 117) 79 67 118) 79 68 119) 79 69 120) 79 76 121) 79 77 122) 79 78 123) := zfrF_up hF (by decide)
  exact en_ret C rfl dd_X12_init_378 hsz hP hS rfl rfl rfl
