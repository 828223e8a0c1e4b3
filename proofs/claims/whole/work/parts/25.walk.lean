/-! F functions and walks, by program (gen.py, mkparts.py) -/
/-! X9_wornStart -/
theorem dd_X9_wornStart_0 : decode Y_X9_wornStart.2.1 0 = .ok (.iload_n 2, 1) := by decide +kernel
theorem dd_X9_wornStart_1 : decode Y_X9_wornStart.2.1 1 = .ok (.aload_n 0, 1) := by decide +kernel
theorem dd_X9_wornStart_2 : decode Y_X9_wornStart.2.1 2 = .ok (.getfield 15, 3) := by decide +kernel
theorem dd_X9_wornStart_5 : decode Y_X9_wornStart.2.1 5 = .ok (.iload_n 1, 1) := by decide +kernel
theorem dd_X9_wornStart_6 : decode Y_X9_wornStart.2.1 6 = .ok (.iaload, 1) := by decide +kernel
theorem dd_X9_wornStart_7 : decode Y_X9_wornStart.2.1 7 = .ok (.aload_n 0, 1) := by decide +kernel
theorem dd_X9_wornStart_8 : decode Y_X9_wornStart.2.1 8 = .ok (.iload_n 1, 1) := by decide +kernel
theorem dd_X9_wornStart_9 : decode Y_X9_wornStart.2.1 9 = .ok (.iload_n 2, 1) := by decide +kernel
theorem dd_X9_wornStart_10 : decode Y_X9_wornStart.2.1 10 = .ok (.invokevirtual 84, 3) := by decide +kernel
theorem dd_X9_wornStart_13 : decode Y_X9_wornStart.2.1 13 = .ok (.isub, 1) := by decide +kernel
theorem dd_X9_wornStart_14 : decode Y_X9_wornStart.2.1 14 = .ok (.isub, 1) := by decide +kernel
theorem dd_X9_wornStart_15 : decode Y_X9_wornStart.2.1 15 = .ok (.istore_n 3, 1) := by decide +kernel
theorem dd_X9_wornStart_16 : decode Y_X9_wornStart.2.1 16 = .ok (.aload_n 0, 1) := by decide +kernel
theorem dd_X9_wornStart_17 : decode Y_X9_wornStart.2.1 17 = .ok (.iload_n 1, 1) := by decide +kernel
theorem dd_X9_wornStart_18 : decode Y_X9_wornStart.2.1 18 = .ok (.invokevirtual 78, 3) := by decide +kernel
theorem dd_X9_wornStart_21 : decode Y_X9_wornStart.2.1 21 = .ok (.iload_n 3, 1) := by decide +kernel
theorem dd_X9_wornStart_22 : decode Y_X9_wornStart.2.1 22 = .ok (.invokestatic 44, 3) := by decide +kernel
theorem dd_X9_wornStart_25 : decode Y_X9_wornStart.2.1 25 = .ok (.ireturn, 1) := by decide +kernel
def F_X9_wornStart (t : Nat) (a1 : Int32) (a2 : Int32) (M : zM) : zO := zck (zin a1 8) (zbI (F_X9_wornEnd t a1 a2 M) (fun r1 M1 => zlt (a2 - ((M (zgr t 1) (zix a1)) - r1)) (fun v1 => zbI (F_X9_staying t a1 M1) (fun r2 M2 => zI (if v1 < r2 then v1 else r2) M2))))
set_option maxHeartbeats 1000000 in
set_option maxRecDepth 20000 in
theorem ct_X9_wornStart (l : Launch) (hl : l.stackTraces = false) (G : zG) (t : Nat) (ht : zsh t = 9) (a1 : Int32) (a2 : Int32) (M : zM) : zMt l G Y_X9_wornStart 9 [.ref (G.2.1 + t), .int a1, .int a2] M (F_X9_wornStart t a1 a2 M) := by
  refine zMt_of (by decide +kernel) (Nat.le_of_ble_eq_true rfl) ?_
  show zEv l G Y_X9_wornStart 9 0 0 [(0, .ref (G.2.1 + t)), (1, .int a1), (2, .int a2)] [] M (zck (zin a1 8) (zbI (F_X9_wornEnd t a1 a2 M) (fun r1 M1 => zlt (a2 - ((M (zgr t 1) (zix a1)) - r1)) (fun v1 => zbI (F_X9_staying t a1 M1) (fun r2 M2 => zI (if v1 < r2 then v1 else r2) M2)))))
  refine ev_iload_n dd_X9_wornStart_0 2 rfl ?_
  refine ev_aload_n dd_X9_wornStart_1 0 rfl ?_
  refine ev_getR gf_RX9_15 dd_X9_wornStart_2 ht (by decide) ?_
  refine ev_iload_n dd_X9_wornStart_5 1 rfl ?_
  refine ev_iald dd_X9_wornStart_6 ((zg_9_1 ht).1) ((zg_9_1 ht).2) ?_
  refine ev_aload_n dd_X9_wornStart_7 0 rfl ?_
  refine ev_iload_n dd_X9_wornStart_8 1 rfl ?_
  refine ev_iload_n dd_X9_wornStart_9 2 rfl ?_
  refine ev_lv (lv' := [(0, .ref (G.2.1 + t)), (1, .int a1)]) [0, 1] rfl ?_
  refine ev_callVI (As := [.int a1, .int a2]) cl_RX9_84 (ct_X9_wornEnd l hl G t ht a1 a2 M) dd_X9_wornStart_10 ht (by decide) (Nat.le_of_ble_eq_true rfl) (Nat.le_of_ble_eq_true rfl) rfl rfl (fun r1 M1 => ?_)
  refine ev_isub dd_X9_wornStart_13 ?_
  refine ev_isub dd_X9_wornStart_14 ?_
  refine ev_topi (fun v1 => ?_)
  refine ev_istore_n (i := 3) (lv' := [(0, .ref (G.2.1 + t)), (1, .int a1), (3, .int v1)]) [1, 2, 0] dd_X9_wornStart_15 rfl (by decide) rfl ?_
  refine ev_aload_n dd_X9_wornStart_16 0 rfl ?_
  refine ev_lv (lv' := [(1, .int a1), (3, .int v1)]) [1, 2] rfl ?_
  refine ev_iload_n dd_X9_wornStart_17 0 rfl ?_
  refine ev_lv (lv' := [(3, .int v1)]) [1] rfl ?_
  refine ev_callVI (As := [.int a1]) cl_RX9_78 (ct_X9_staying l hl G t ht a1 M1) dd_X9_wornStart_18 ht (by decide) (Nat.le_of_ble_eq_true rfl) (Nat.le_of_ble_eq_true rfl) rfl rfl (fun r2 M2 => ?_)
  refine ev_iload_n dd_X9_wornStart_21 0 rfl ?_
  refine ev_lv (lv' := []) [] rfl ?_
  refine ev_mmin mw_RX9_44 dd_X9_wornStart_22 (Nat.le_of_ble_eq_true rfl) (Nat.le_of_ble_eq_true rfl) ?_
  exact ev_iret dd_X9_wornStart_25 rfl (Nat.le_of_ble_eq_true rfl) rfl
/-! X11_worn -/
theorem dd_X11_worn_0 : decode Y_X11_worn.2.1 0 = .ok (.aload_n 0, 1) := by decide +kernel
theorem dd_X11_worn_1 : decode Y_X11_worn.2.1 1 = .ok (.iload_n 1, 1) := by decide +kernel
theorem dd_X11_worn_2 : decode Y_X11_worn.2.1 2 = .ok (.invokevirtual 169, 3) := by decide +kernel
theorem dd_X11_worn_5 : decode Y_X11_worn.2.1 5 = .ok (.iload_n 2, 1) := by decide +kernel
theorem dd_X11_worn_6 : decode Y_X11_worn.2.1 6 = .ok (.bipush 99, 2) := by decide +kernel
theorem dd_X11_worn_8 : decode Y_X11_worn.2.1 8 = .ok (.invokestatic 323, 3) := by decide +kernel
theorem dd_X11_worn_11 : decode Y_X11_worn.2.1 11 = .ok (.aload_n 0, 1) := by decide +kernel
theorem dd_X11_worn_12 : decode Y_X11_worn.2.1 12 = .ok (.getfield 19, 3) := by decide +kernel
theorem dd_X11_worn_15 : decode Y_X11_worn.2.1 15 = .ok (.getfield 172, 3) := by decide +kernel
theorem dd_X11_worn_18 : decode Y_X11_worn.2.1 18 = .ok (.iload_n 1, 1) := by decide +kernel
theorem dd_X11_worn_19 : decode Y_X11_worn.2.1 19 = .ok (.iload_n 2, 1) := by decide +kernel
theorem dd_X11_worn_20 : decode Y_X11_worn.2.1 20 = .ok (.invokevirtual 326, 3) := by decide +kernel
theorem dd_X11_worn_23 : decode Y_X11_worn.2.1 23 = .ok (.istore 4, 2) := by decide +kernel
theorem dd_X11_worn_25 : decode Y_X11_worn.2.1 25 = .ok (.aload_n 0, 1) := by decide +kernel
theorem dd_X11_worn_26 : decode Y_X11_worn.2.1 26 = .ok (.getfield 19, 3) := by decide +kernel
theorem dd_X11_worn_29 : decode Y_X11_worn.2.1 29 = .ok (.getfield 172, 3) := by decide +kernel
theorem dd_X11_worn_32 : decode Y_X11_worn.2.1 32 = .ok (.iload_n 1, 1) := by decide +kernel
theorem dd_X11_worn_33 : decode Y_X11_worn.2.1 33 = .ok (.iload_n 2, 1) := by decide +kernel
theorem dd_X11_worn_34 : decode Y_X11_worn.2.1 34 = .ok (.invokevirtual 329, 3) := by decide +kernel
theorem dd_X11_worn_37 : decode Y_X11_worn.2.1 37 = .ok (.iload 4, 2) := by decide +kernel
theorem dd_X11_worn_39 : decode Y_X11_worn.2.1 39 = .ok (.isub, 1) := by decide +kernel
theorem dd_X11_worn_40 : decode Y_X11_worn.2.1 40 = .ok (.istore 5, 2) := by decide +kernel
theorem dd_X11_worn_42 : decode Y_X11_worn.2.1 42 = .ok (.iload_n 3, 1) := by decide +kernel
theorem dd_X11_worn_43 : decode Y_X11_worn.2.1 43 = .ok (.iconst (-1), 1) := by decide +kernel
theorem dd_X11_worn_44 : decode Y_X11_worn.2.1 44 = .ok (.if_icmp .ne 6, 3) := by decide +kernel
theorem dd_X11_worn_47 : decode Y_X11_worn.2.1 47 = .ok (.iload 5, 2) := by decide +kernel
theorem dd_X11_worn_49 : decode Y_X11_worn.2.1 49 = .ok (.ireturn, 1) := by decide +kernel
theorem dd_X11_worn_50 : decode Y_X11_worn.2.1 50 = .ok (.iload_n 3, 1) := by decide +kernel
theorem dd_X11_worn_51 : decode Y_X11_worn.2.1 51 = .ok (.iload 5, 2) := by decide +kernel
theorem dd_X11_worn_53 : decode Y_X11_worn.2.1 53 = .ok (.invokestatic 195, 3) := by decide +kernel
theorem dd_X11_worn_56 : decode Y_X11_worn.2.1 56 = .ok (.aload_n 0, 1) := by decide +kernel
theorem dd_X11_worn_57 : decode Y_X11_worn.2.1 57 = .ok (.getfield 19, 3) := by decide +kernel
theorem dd_X11_worn_60 : decode Y_X11_worn.2.1 60 = .ok (.getfield 172, 3) := by decide +kernel
theorem dd_X11_worn_63 : decode Y_X11_worn.2.1 63 = .ok (.iload_n 1, 1) := by decide +kernel
theorem dd_X11_worn_64 : decode Y_X11_worn.2.1 64 = .ok (.iload 4, 2) := by decide +kernel
theorem dd_X11_worn_66 : decode Y_X11_worn.2.1 66 = .ok (.iload_n 3, 1) := by decide +kernel
theorem dd_X11_worn_67 : decode Y_X11_worn.2.1 67 = .ok (.iadd, 1) := by decide +kernel
theorem dd_X11_worn_68 : decode Y_X11_worn.2.1 68 = .ok (.invokevirtual 199, 3) := by decide +kernel
theorem dd_X11_worn_71 : decode Y_X11_worn.2.1 71 = .ok (.ireturn, 1) := by decide +kernel
def F_X11_worn (t : Nat) (a1 : Int32) (a2 : Int32) (a3 : Int32) (M : zM) : zO := zbV (F_X11_needName t a1 M) (fun M1 => zbV (F_X11_needAmount a2 99 M1) (fun M2 => zbI (F_X9_wornStart (zgr (zgr t 1) 4) a1 a2 M2) (fun r1 M3 => zbI (F_X9_wornEnd (zgr (zgr t 1) 4) a1 a2 M3) (fun r2 M4 => zlt (r2 - r1) (fun v1 => zit (a3 = (-1)) (zI v1 M4) (zbV (F_X11_needBelow a3 v1 M4) (fun M5 => zbI (F_X9_sign (zgr (zgr t 1) 4) a1 (r1 + a3) M5) (fun r3 M6 => zI r3 M6))))))))
set_option maxHeartbeats 1000000 in
set_option maxRecDepth 20000 in
theorem ct_X11_worn (l : Launch) (hl : l.stackTraces = false) (G : zG) (t : Nat) (ht : zsh t = 11) (a1 : Int32) (a2 : Int32) (a3 : Int32) (M : zM) : zMt l G Y_X11_worn 10 [.ref (G.2.1 + t), .int a1, .int a2, .int a3] M (F_X11_worn t a1 a2 a3 M) := by
  refine zMt_of (by decide +kernel) (Nat.le_of_ble_eq_true rfl) ?_
  show zEv l G Y_X11_worn 10 0 0 [(0, .ref (G.2.1 + t)), (1, .int a1), (2, .int a2), (3, .int a3)] [] M (zbV (F_X11_needName t a1 M) (fun M1 => zbV (F_X11_needAmount a2 99 M1) (fun M2 => zbI (F_X9_wornStart (zgr (zgr t 1) 4) a1 a2 M2) (fun r1 M3 => zbI (F_X9_wornEnd (zgr (zgr t 1) 4) a1 a2 M3) (fun r2 M4 => zlt (r2 - r1) (fun v1 => zit (a3 = (-1)) (zI v1 M4) (zbV (F_X11_needBelow a3 v1 M4) (fun M5 => zbI (F_X9_sign (zgr (zgr t 1) 4) a1 (r1 + a3) M5) (fun r3 M6 => zI r3 M6)))))))))
  refine ev_aload_n dd_X11_worn_0 0 rfl ?_
  refine ev_iload_n dd_X11_worn_1 1 rfl ?_
  refine ev_callVV (As := [.int a1]) cl_RX11_169 (ct_X11_needName l hl G t ht a1 M) dd_X11_worn_2 ht (by decide) (Nat.le_of_ble_eq_true rfl) (Nat.le_of_ble_eq_true rfl) rfl rfl (fun M1 => ?_)
  refine ev_iload_n dd_X11_worn_5 2 rfl ?_
  refine ev_bipush (v := 99) dd_X11_worn_6 (by decide) ?_
  refine ev_callSV (As := [.int a2, .int 99]) cl_RX11_323 (ct_X11_needAmount l hl G a2 99 M1) dd_X11_worn_8 (by decide) (Nat.le_of_ble_eq_true rfl) (Nat.le_of_ble_eq_true rfl) rfl rfl (fun M2 => ?_)
  refine ev_aload_n dd_X11_worn_11 0 rfl ?_
  refine ev_getR gf_RX11_19 dd_X11_worn_12 ht (by decide) ?_
  refine ev_getR gf_RX11_172 dd_X11_worn_15 (zg_11_1 ht) (by decide) ?_
  refine ev_iload_n dd_X11_worn_18 1 rfl ?_
  refine ev_iload_n dd_X11_worn_19 2 rfl ?_
  refine ev_callVI (As := [.int a1, .int a2]) cl_RX11_326 (ct_X9_wornStart l hl G (zgr (zgr t 1) 4) (zg_6_4 (zg_11_1 ht)) a1 a2 M2) dd_X11_worn_20 (zg_6_4 (zg_11_1 ht)) (by decide) (Nat.le_of_ble_eq_true rfl) (Nat.le_of_ble_eq_true rfl) rfl rfl (fun r1 M3 => ?_)
  refine ev_istore (i := 4) (lv' := [(0, .ref (G.2.1 + t)), (1, .int a1), (2, .int a2), (3, .int a3), (4, .int r1)]) [1, 2, 3, 4, 0] dd_X11_worn_23 (by decide) rfl ?_
  refine ev_aload_n dd_X11_worn_25 0 rfl ?_
  refine ev_getR gf_RX11_19 dd_X11_worn_26 ht (by decide) ?_
  refine ev_getR gf_RX11_172 dd_X11_worn_29 (zg_11_1 ht) (by decide) ?_
  refine ev_iload_n dd_X11_worn_32 1 rfl ?_
  refine ev_iload_n dd_X11_worn_33 2 rfl ?_
  refine ev_lv (lv' := [(0, .ref (G.2.1 + t)), (1, .int a1), (3, .int a3), (4, .int r1)]) [0, 1, 3, 4] rfl ?_
  refine ev_callVI (As := [.int a1, .int a2]) cl_RX11_329 (ct_X9_wornEnd l hl G (zgr (zgr t 1) 4) (zg_6_4 (zg_11_1 ht)) a1 a2 M3) dd_X11_worn_34 (zg_6_4 (zg_11_1 ht)) (by decide) (Nat.le_of_ble_eq_true rfl) (Nat.le_of_ble_eq_true rfl) rfl rfl (fun r2 M4 => ?_)
  refine ev_iload dd_X11_worn_37 3 rfl ?_
  refine ev_isub dd_X11_worn_39 ?_
  refine ev_topi (fun v1 => ?_)
  refine ev_istore (i := 5) (lv' := [(0, .ref (G.2.1 + t)), (1, .int a1), (3, .int a3), (4, .int r1), (5, .int v1)]) [1, 2, 3, 4, 0] dd_X11_worn_40 (by decide) rfl ?_
  refine ev_iload_n dd_X11_worn_42 2 rfl ?_
  refine ev_iconst (v := (-1)) dd_X11_worn_43 (by decide) ?_
  refine ev_icmp_ne 50 dd_X11_worn_44 (by decide) ?_ ?_
  · refine ev_iload_n dd_X11_worn_50 2 rfl ?_
    refine ev_iload dd_X11_worn_51 4 rfl ?_
    refine ev_lv (lv' := [(0, .ref (G.2.1 + t)), (1, .int a1), (3, .int a3), (4, .int r1)]) [0, 1, 2, 3] rfl ?_
    refine ev_callSV (As := [.int a3, .int v1]) cl_RX11_195 (ct_X11_needBelow l hl G a3 v1 M4) dd_X11_worn_53 (by decide) (Nat.le_of_ble_eq_true rfl) (Nat.le_of_ble_eq_true rfl) rfl rfl (fun M5 => ?_)
    refine ev_aload_n dd_X11_worn_56 0 rfl ?_
    refine ev_lv (lv' := [(1, .int a1), (3, .int a3), (4, .int r1)]) [1, 2, 3] rfl ?_
    refine ev_getR gf_RX11_19 dd_X11_worn_57 ht (by decide) ?_
    refine ev_getR gf_RX11_172 dd_X11_worn_60 (zg_11_1 ht) (by decide) ?_
    refine ev_iload_n dd_X11_worn_63 0 rfl ?_
    refine ev_lv (lv' := [(3, .int a3), (4, .int r1)]) [1, 2] rfl ?_
    refine ev_iload dd_X11_worn_64 1 rfl ?_
    refine ev_lv (lv' := [(3, .int a3)]) [0] rfl ?_
    refine ev_iload_n dd_X11_worn_66 0 rfl ?_
    refine ev_lv (lv' := []) [] rfl ?_
    refine ev_iadd dd_X11_worn_67 ?_
    refine ev_callVI (As := [.int a1, .int (r1 + a3)]) cl_RX11_199 (ct_X9_sign l hl G (zgr (zgr t 1) 4) (zg_6_4 (zg_11_1 ht)) a1 (r1 + a3) M5) dd_X11_worn_68 (zg_6_4 (zg_11_1 ht)) (by decide) (Nat.le_of_ble_eq_true rfl) (Nat.le_of_ble_eq_true rfl) rfl rfl (fun r3 M6 => ?_)
    exact ev_iret dd_X11_worn_71 rfl (Nat.le_of_ble_eq_true rfl) rfl
  · refine ev_lv (lv' := [(5, .int v1)]) [4] rfl ?_
    refine ev_iload dd_X11_worn_47 0 rfl ?_
    refine ev_lv (lv' := []) [] rfl ?_
    exact ev_iret dd_X11_worn_49 rfl (Nat.le_of_ble_eq_true rfl) rfl
/-! X11_year -/
theorem dd_X11_year_0 : decode Y_X11_year.2.1 0 = .ok (.aload_n 0, 1) := by decide +kernel
theorem dd_X11_year_1 : decode Y_X11_year.2.1 1 = .ok (.dup, 1) := by decide +kernel
theorem dd_X11_year_2 : decode Y_X11_year.2.1 2 = .ok (.getfield 104, 3) := by decide +kernel
theorem dd_X11_year_5 : decode Y_X11_year.2.1 5 = .ok (.iconst 1, 1) := by decide +kernel
theorem dd_X11_year_6 : decode Y_X11_year.2.1 6 = .ok (.iadd, 1) := by decide +kernel
theorem dd_X11_year_7 : decode Y_X11_year.2.1 7 = .ok (.putfield 104, 3) := by decide +kernel
theorem dd_X11_year_10 : decode Y_X11_year.2.1 10 = .ok (.aload_n 0, 1) := by decide +kernel
theorem dd_X11_year_11 : decode Y_X11_year.2.1 11 = .ok (.getfield 40, 3) := by decide +kernel
theorem dd_X11_year_14 : decode Y_X11_year.2.1 14 = .ok (.invokevirtual 226, 3) := by decide +kernel
theorem dd_X11_year_17 : decode Y_X11_year.2.1 17 = .ok (.istore_n 1, 1) := by decide +kernel
theorem dd_X11_year_18 : decode Y_X11_year.2.1 18 = .ok (.aload_n 0, 1) := by decide +kernel
theorem dd_X11_year_19 : decode Y_X11_year.2.1 19 = .ok (.getfield 53, 3) := by decide +kernel
theorem dd_X11_year_22 : decode Y_X11_year.2.1 22 = .ok (.iconst 1, 1) := by decide +kernel
theorem dd_X11_year_23 : decode Y_X11_year.2.1 23 = .ok (.iconst 0, 1) := by decide +kernel
theorem dd_X11_year_24 : decode Y_X11_year.2.1 24 = .ok (.iconst 0, 1) := by decide +kernel
theorem dd_X11_year_25 : decode Y_X11_year.2.1 25 = .ok (.iload_n 1, 1) := by decide +kernel
theorem dd_X11_year_26 : decode Y_X11_year.2.1 26 = .ok (.invokevirtual 219, 3) := by decide +kernel
theorem dd_X11_year_29 : decode Y_X11_year.2.1 29 = .ok (.iload_n 1, 1) := by decide +kernel
theorem dd_X11_year_30 : decode Y_X11_year.2.1 30 = .ok (.invokestatic 229, 3) := by decide +kernel
theorem dd_X11_year_33 : decode Y_X11_year.2.1 33 = .ok (.ireturn, 1) := by decide +kernel
def F_X11_year (t : Nat) (M : zM) : zO := zst (zup M t 15 ((M t 15) + 1)) (fun M1 => zbI (F_X10_passYear (zgr t 4) M1) (fun r1 M2 => zbV (F_X3_add (zgr t 7) 1 0 0 r1 M2) (fun M3 => zbI (F_J6_bitCount_0f7a4 r1 M3) (fun r2 M4 => zI r2 M4))))
set_option maxHeartbeats 1000000 in
set_option maxRecDepth 20000 in
theorem ct_X11_year (l : Launch) (hl : l.stackTraces = false) (G : zG) (t : Nat) (ht : zsh t = 11) (M : zM) : zMt l G Y_X11_year 13 [.ref (G.2.1 + t)] M (F_X11_year t M) := by
  refine zMt_of (by decide +kernel) (Nat.le_of_ble_eq_true rfl) ?_
  show zEv l G Y_X11_year 13 0 0 [(0, .ref (G.2.1 + t))] [] M (zst (zup M t 15 ((M t 15) + 1)) (fun M1 => zbI (F_X10_passYear (zgr t 4) M1) (fun r1 M2 => zbV (F_X3_add (zgr t 7) 1 0 0 r1 M2) (fun M3 => zbI (F_J6_bitCount_0f7a4 r1 M3) (fun r2 M4 => zI r2 M4)))))
  refine ev_aload_n dd_X11_year_0 0 rfl ?_
  refine ev_dup dd_X11_year_1 rfl ?_
  refine ev_getI gf_RX11_104 dd_X11_year_2 ht (by decide) ?_
  refine ev_iconst (v := 1) dd_X11_year_5 (by decide) ?_
  refine ev_iadd dd_X11_year_6 ?_
  refine ev_putI gw_RX11_104 dd_X11_year_7 ht (by decide) ?_
  refine ev_st (fun M1 => ?_)
  refine ev_aload_n dd_X11_year_10 0 rfl ?_
  refine ev_getR gf_RX11_40 dd_X11_year_11 ht (by decide) ?_
  refine ev_callVI (As := []) cl_RX11_226 (ct_X10_passYear l hl G (zgr t 4) (zg_11_4 ht) M1) dd_X11_year_14 (zg_11_4 ht) (by decide) (Nat.le_of_ble_eq_true rfl) (Nat.le_of_ble_eq_true rfl) rfl rfl (fun r1 M2 => ?_)
  refine ev_istore_n (i := 1) (lv' := [(0, .ref (G.2.1 + t)), (1, .int r1)]) [1, 0] dd_X11_year_17 rfl (by decide) rfl ?_
  refine ev_aload_n dd_X11_year_18 0 rfl ?_
  refine ev_lv (lv' := [(1, .int r1)]) [1] rfl ?_
  refine ev_getR gf_RX11_53 dd_X11_year_19 ht (by decide) ?_
  refine ev_iconst (v := 1) dd_X11_year_22 (by decide) ?_
  refine ev_iconst (v := 0) dd_X11_year_23 (by decide) ?_
  refine ev_iconst (v := 0) dd_X11_year_24 (by decide) ?_
  refine ev_iload_n dd_X11_year_25 0 rfl ?_
  refine ev_callVV (As := [.int 1, .int 0, .int 0, .int r1]) cl_RX11_219 (ct_X3_add l hl G (zgr t 7) (zg_11_7 ht) 1 0 0 r1 M2) dd_X11_year_26 (zg_11_7 ht) (by decide) (Nat.le_of_ble_eq_true rfl) (Nat.le_of_ble_eq_true rfl) rfl rfl (fun M3 => ?_)
  refine ev_iload_n dd_X11_year_29 0 rfl ?_
  refine ev_lv (lv' := []) [] rfl ?_
  refine ev_callSI (As := [.int r1]) cl_RX11_229 (ct_J6_bitCount_0f7a4 l hl G r1 M3) dd_X11_year_30 (by decide) (Nat.le_of_ble_eq_true rfl) (Nat.le_of_ble_eq_true rfl) rfl rfl (fun r2 M4 => ?_)
  exact ev_iret dd_X11_year_33 rfl (Nat.le_of_ble_eq_true rfl) rfl
/-! X12_off -/
theorem dd_X12_off_0 : decode Y_X12_off.2.1 0 = .ok (.iload_n 0, 1) := by decide +kernel
theorem dd_X12_off_1 : decode Y_X12_off.2.1 1 = .ok (.iload_n 1, 1) := by decide +kernel
theorem dd_X12_off_2 : decode Y_X12_off.2.1 2 = .ok (.if_icmp .ge 9, 3) := by decide +kernel
theorem dd_X12_off_5 : decode Y_X12_off.2.1 5 = .ok (.iload_n 1, 1) := by decide +kernel
theorem dd_X12_off_6 : decode Y_X12_off.2.1 6 = .ok (.iload_n 0, 1) := by decide +kernel
theorem dd_X12_off_7 : decode Y_X12_off.2.1 7 = .ok (.isub, 1) := by decide +kernel
theorem dd_X12_off_8 : decode Y_X12_off.2.1 8 = .ok (.goto 6, 3) := by decide +kernel
theorem dd_X12_off_11 : decode Y_X12_off.2.1 11 = .ok (.iload_n 0, 1) := by decide +kernel
theorem dd_X12_off_12 : decode Y_X12_off.2.1 12 = .ok (.iload_n 1, 1) := by decide +kernel
theorem dd_X12_off_13 : decode Y_X12_off.2.1 13 = .ok (.isub, 1) := by decide +kernel
theorem dd_X12_off_14 : decode Y_X12_off.2.1 14 = .ok (.ireturn, 1) := by decide +kernel
def F_X12_off (a0 : Int32) (a1 : Int32) (M : zM) : zO := zjo (fun (w1 : Int32) (M1 : zM) => zI w1 M1) (fun (k1 : Int32 → zM → zO) => zit (a1 ≤ a0) (k1 (a0 - a1) M) (k1 (a1 - a0) M))
set_option maxHeartbeats 1000000 in
set_option maxRecDepth 20000 in
theorem ct_X12_off (l : Launch) (hl : l.stackTraces = false) (G : zG) (a0 : Int32) (a1 : Int32) (M : zM) : zMt l G Y_X12_off 1 [.int a0, .int a1] M (F_X12_off a0 a1 M) := by
  refine zMt_of (by decide +kernel) (Nat.le_of_ble_eq_true rfl) ?_
  show zEv l G Y_X12_off 1 0 0 [(0, .int a0), (1, .int a1)] [] M (zjo (fun (w1 : Int32) (M1 : zM) => zI w1 M1) (fun (k1 : Int32 → zM → zO) => zit (a1 ≤ a0) (k1 (a0 - a1) M) (k1 (a1 - a0) M)))
  refine ev_iload_n dd_X12_off_0 0 rfl ?_
  refine ev_iload_n dd_X12_off_1 1 rfl ?_
  refine ev_jo (fun (k1 : Int32 → zM → zO) => ∀ (w1 : Int32) (M1 : zM), zEv l G Y_X12_off 1 0 14 [] [.int w1] M1 (k1 w1 M1)) ?_ (fun k1 hk1 => ?_)
  · intro w1 M1
    exact ev_iret dd_X12_off_14 rfl (Nat.le_of_ble_eq_true rfl) rfl
  · refine ev_icmp_ge 11 dd_X12_off_2 (by decide) ?_ ?_
    · refine ev_iload_n dd_X12_off_11 0 rfl ?_
      refine ev_lv (lv' := [(1, .int a1)]) [1] rfl ?_
      refine ev_iload_n dd_X12_off_12 0 rfl ?_
      refine ev_lv (lv' := []) [] rfl ?_
      refine ev_isub dd_X12_off_13 ?_
      exact hk1 _ _
    · refine ev_iload_n dd_X12_off_5 1 rfl ?_
      refine ev_lv (lv' := [(0, .int a0)]) [0] rfl ?_
      refine ev_iload_n dd_X12_off_6 0 rfl ?_
      refine ev_lv (lv' := []) [] rfl ?_
      refine ev_isub dd_X12_off_7 ?_
      refine ev_goto 14 dd_X12_off_8 (by decide) ?_
      exact hk1 _ _
/-! X12_apart -/
theorem dd_X12_apart_0 : decode Y_X12_apart.2.1 0 = .ok (.aload_n 0, 1) := by decide +kernel
theorem dd_X12_apart_1 : decode Y_X12_apart.2.1 1 = .ok (.getfield 23, 3) := by decide +kernel
theorem dd_X12_apart_4 : decode Y_X12_apart.2.1 4 = .ok (.iload_n 1, 1) := by decide +kernel
theorem dd_X12_apart_5 : decode Y_X12_apart.2.1 5 = .ok (.iaload, 1) := by decide +kernel
theorem dd_X12_apart_6 : decode Y_X12_apart.2.1 6 = .ok (.aload_n 0, 1) := by decide +kernel
theorem dd_X12_apart_7 : decode Y_X12_apart.2.1 7 = .ok (.getfield 23, 3) := by decide +kernel
theorem dd_X12_apart_10 : decode Y_X12_apart.2.1 10 = .ok (.iload_n 2, 1) := by decide +kernel
theorem dd_X12_apart_11 : decode Y_X12_apart.2.1 11 = .ok (.iaload, 1) := by decide +kernel
theorem dd_X12_apart_12 : decode Y_X12_apart.2.1 12 = .ok (.invokestatic 364, 3) := by decide +kernel
theorem dd_X12_apart_15 : decode Y_X12_apart.2.1 15 = .ok (.aload_n 0, 1) := by decide +kernel
theorem dd_X12_apart_16 : decode Y_X12_apart.2.1 16 = .ok (.getfield 26, 3) := by decide +kernel
theorem dd_X12_apart_19 : decode Y_X12_apart.2.1 19 = .ok (.iload_n 1, 1) := by decide +kernel
theorem dd_X12_apart_20 : decode Y_X12_apart.2.1 20 = .ok (.iaload, 1) := by decide +kernel
theorem dd_X12_apart_21 : decode Y_X12_apart.2.1 21 = .ok (.aload_n 0, 1) := by decide +kernel
theorem dd_X12_apart_22 : decode Y_X12_apart.2.1 22 = .ok (.getfield 26, 3) := by decide +kernel
theorem dd_X12_apart_25 : decode Y_X12_apart.2.1 25 = .ok (.iload_n 2, 1) := by decide +kernel
theorem dd_X12_apart_26 : decode Y_X12_apart.2.1 26 = .ok (.iaload, 1) := by decide +kernel
theorem dd_X12_apart_27 : decode Y_X12_apart.2.1 27 = .ok (.invokestatic 364, 3) := by decide +kernel
theorem dd_X12_apart_30 : decode Y_X12_apart.2.1 30 = .ok (.iadd, 1) := by decide +kernel
theorem dd_X12_apart_31 : decode Y_X12_apart.2.1 31 = .ok (.ireturn, 1) := by decide +kernel
def F_X12_apart (t : Nat) (a1 : Int32) (a2 : Int32) (M : zM) : zO := zck (zin a1 8) (zck (zin a2 8) (zbI (F_X12_off (M (zgr t 7) (zix a1)) (M (zgr t 7) (zix a2)) M) (fun r1 M1 => zck (zin a1 8) (zck (zin a2 8) (zbI (F_X12_off (M1 (zgr t 8) (zix a1)) (M1 (zgr t 8) (zix a2)) M1) (fun r2 M2 => zI (r1 + r2) M2))))))
set_option maxHeartbeats 1000000 in
set_option maxRecDepth 20000 in
theorem ct_X12_apart (l : Launch) (hl : l.stackTraces = false) (G : zG) (t : Nat) (ht : zsh t = 12) (a1 : Int32) (a2 : Int32) (M : zM) : zMt l G Y_X12_apart 2 [.ref (G.2.1 + t), .int a1, .int a2] M (F_X12_apart t a1 a2 M) := by
  refine zMt_of (by decide +kernel) (Nat.le_of_ble_eq_true rfl) ?_
  show zEv l G Y_X12_apart 2 0 0 [(0, .ref (G.2.1 + t)), (1, .int a1), (2, .int a2)] [] M (zck (zin a1 8) (zck (zin a2 8) (zbI (F_X12_off (M (zgr t 7) (zix a1)) (M (zgr t 7) (zix a2)) M) (fun r1 M1 => zck (zin a1 8) (zck (zin a2 8) (zbI (F_X12_off (M1 (zgr t 8) (zix a1)) (M1 (zgr t 8) (zix a2)) M1) (fun r2 M2 => zI (r1 + r2) M2)))))))
  refine ev_aload_n dd_X12_apart_0 0 rfl ?_
  refine ev_getR gf_RX12_23 dd_X12_apart_1 ht (by decide) ?_
  refine ev_iload_n dd_X12_apart_4 1 rfl ?_
  refine ev_iald dd_X12_apart_5 ((zg_12_7 ht).1) ((zg_12_7 ht).2) ?_
  refine ev_aload_n dd_X12_apart_6 0 rfl ?_
  refine ev_getR gf_RX12_23 dd_X12_apart_7 ht (by decide) ?_
  refine ev_iload_n dd_X12_apart_10 2 rfl ?_
  refine ev_iald dd_X12_apart_11 ((zg_12_7 ht).1) ((zg_12_7 ht).2) ?_
  refine ev_callSI (As := [.int (M (zgr t 7) (zix a1)), .int (M (zgr t 7) (zix a2))]) cl_RX12_364 (ct_X12_off l hl G (M (zgr t 7) (zix a1)) (M (zgr t 7) (zix a2)) M) dd_X12_apart_12 (by decide) (Nat.le_of_ble_eq_true rfl) (Nat.le_of_ble_eq_true rfl) rfl rfl (fun r1 M1 => ?_)
  refine ev_aload_n dd_X12_apart_15 0 rfl ?_
  refine ev_getR gf_RX12_26 dd_X12_apart_16 ht (by decide) ?_
  refine ev_iload_n dd_X12_apart_19 1 rfl ?_
  refine ev_lv (lv' := [(0, .ref (G.2.1 + t)), (2, .int a2)]) [0, 2] rfl ?_
  refine ev_iald dd_X12_apart_20 ((zg_12_8 ht).1) ((zg_12_8 ht).2) ?_
  refine ev_aload_n dd_X12_apart_21 0 rfl ?_
  refine ev_lv (lv' := [(2, .int a2)]) [1] rfl ?_
  refine ev_getR gf_RX12_26 dd_X12_apart_22 ht (by decide) ?_
  refine ev_iload_n dd_X12_apart_25 0 rfl ?_
  refine ev_lv (lv' := []) [] rfl ?_
  refine ev_iald dd_X12_apart_26 ((zg_12_8 ht).1) ((zg_12_8 ht).2) ?_
  refine ev_callSI (As := [.int (M1 (zgr t 8) (zix a1)), .int (M1 (zgr t 8) (zix a2))]) cl_RX12_364 (ct_X12_off l hl G (M1 (zgr t 8) (zix a1)) (M1 (zgr t 8) (zix a2)) M1) dd_X12_apart_27 (by decide) (Nat.le_of_ble_eq_true rfl) (Nat.le_of_ble_eq_true rfl) rfl rfl (fun r2 M2 => ?_)
  refine ev_iadd dd_X12_apart_30 ?_
  exact ev_iret dd_X12_apart_31 rfl (Nat.le_of_ble_eq_true rfl) rfl
/-! X12_right -/
theorem dd_X12_right_0 : decode Y_X12_right.2.1 0 = .ok (.aload_n 0, 1) := by decide +kernel
theorem dd_X12_right_1 : decode Y_X12_right.2.1 1 = .ok (.getfield 153, 3) := by decide +kernel
theorem dd_X12_right_4 : decode Y_X12_right.2.1 4 = .ok (.ifCond .ne 12, 3) := by decide +kernel
theorem dd_X12_right_7 : decode Y_X12_right.2.1 7 = .ok (.iload_n 1, 1) := by decide +kernel
theorem dd_X12_right_8 : decode Y_X12_right.2.1 8 = .ok (.ifCond .ne 8, 3) := by decide +kernel
theorem dd_X12_right_11 : decode Y_X12_right.2.1 11 = .ok (.aload_n 0, 1) := by decide +kernel
theorem dd_X12_right_12 : decode Y_X12_right.2.1 12 = .ok (.iload_n 2, 1) := by decide +kernel
theorem dd_X12_right_13 : decode Y_X12_right.2.1 13 = .ok (.putfield 153, 3) := by decide +kernel
theorem dd_X12_right_16 : decode Y_X12_right.2.1 16 = .ok (.aload_n 0, 1) := by decide +kernel
theorem dd_X12_right_17 : decode Y_X12_right.2.1 17 = .ok (.getfield 153, 3) := by decide +kernel
theorem dd_X12_right_20 : decode Y_X12_right.2.1 20 = .ok (.ifCond .ne 7, 3) := by decide +kernel
theorem dd_X12_right_23 : decode Y_X12_right.2.1 23 = .ok (.iconst 1, 1) := by decide +kernel
theorem dd_X12_right_24 : decode Y_X12_right.2.1 24 = .ok (.goto 4, 3) := by decide +kernel
theorem dd_X12_right_27 : decode Y_X12_right.2.1 27 = .ok (.iconst 0, 1) := by decide +kernel
theorem dd_X12_right_28 : decode Y_X12_right.2.1 28 = .ok (.ireturn, 1) := by decide +kernel
def F_X12_right (t : Nat) (a1 : Int32) (a2 : Int32) (M : zM) : zO := zjo (fun  (M2 : zM) => zjo (fun (w1 : Int32) (M3 : zM) => zck (zbo w1) (zI w1 M3)) (fun (k2 : Int32 → zM → zO) => zit ((M2 t 0) = 0) (k2 1 M2) (k2 0 M2))) (fun (k1 : zM → zO) => zit ((M t 0) = 0) (zit (a1 = 0) (zst (zup M t 0 a2) (fun M1 => k1 M1)) (k1 M)) (k1 M))
set_option maxHeartbeats 1000000 in
set_option maxRecDepth 20000 in
theorem ct_X12_right (l : Launch) (hl : l.stackTraces = false) (G : zG) (t : Nat) (ht : zsh t = 12) (a1 : Int32) (a2 : Int32) (M : zM) : zMt l G Y_X12_right 1 [.ref (G.2.1 + t), .int a1, .int a2] M (F_X12_right t a1 a2 M) := by
  refine zMt_of (by decide +kernel) (Nat.le_of_ble_eq_true rfl) ?_
  show zEv l G Y_X12_right 1 0 0 [(0, .ref (G.2.1 + t)), (1, .int a1), (2, .int a2)] [] M (zjo (fun  (M2 : zM) => zjo (fun (w1 : Int32) (M3 : zM) => zck (zbo w1) (zI w1 M3)) (fun (k2 : Int32 → zM → zO) => zit ((M2 t 0) = 0) (k2 1 M2) (k2 0 M2))) (fun (k1 : zM → zO) => zit ((M t 0) = 0) (zit (a1 = 0) (zst (zup M t 0 a2) (fun M1 => k1 M1)) (k1 M)) (k1 M)))
  refine ev_aload_n dd_X12_right_0 0 rfl ?_
  refine ev_getI gf_RX12_153 dd_X12_right_1 ht (by decide) ?_
  refine ev_jo (fun (k1 : zM → zO) => ∀  (M2 : zM), zEv l G Y_X12_right 1 0 16 [(0, .ref (G.2.1 + t))] [] M2 (k1 M2)) ?_ (fun k1 hk1 => ?_)
  · intro M2
    refine ev_aload_n dd_X12_right_16 0 rfl ?_
    refine ev_lv (lv' := []) [] rfl ?_
    refine ev_getI gf_RX12_153 dd_X12_right_17 ht (by decide) ?_
    refine ev_jo (fun (k2 : Int32 → zM → zO) => ∀ (w1 : Int32) (M3 : zM), zEv l G Y_X12_right 1 0 28 [] [.int w1] M3 (k2 w1 M3)) ?_ (fun k2 hk2 => ?_)
    · intro w1 M3
      exact ev_zret dd_X12_right_28 rfl (Nat.le_of_ble_eq_true rfl) rfl
    · refine ev_if_ne 27 dd_X12_right_20 (by decide) ?_ ?_
      · refine ev_iconst (v := 0) dd_X12_right_27 (by decide) ?_
        exact hk2 _ _
      · refine ev_iconst (v := 1) dd_X12_right_23 (by decide) ?_
        refine ev_goto 28 dd_X12_right_24 (by decide) ?_
        exact hk2 _ _
  · refine ev_if_ne 16 dd_X12_right_4 (by decide) ?_ ?_
    · refine ev_lv (lv' := [(0, .ref (G.2.1 + t))]) [0] rfl ?_
      exact hk1 _
    · refine ev_iload_n dd_X12_right_7 1 rfl ?_
      refine ev_lv (lv' := [(0, .ref (G.2.1 + t)), (2, .int a2)]) [0, 2] rfl ?_
      refine ev_if_ne 16 dd_X12_right_8 (by decide) ?_ ?_
      · refine ev_lv (lv' := [(0, .ref (G.2.1 + t))]) [0] rfl ?_
        exact hk1 _
      · refine ev_aload_n dd_X12_right_11 0 rfl ?_
        refine ev_iload_n dd_X12_right_12 1 rfl ?_
        refine ev_lv (lv' := [(0, .ref (G.2.1 + t))]) [0] rfl ?_
        refine ev_putI gw_RX12_153 dd_X12_right_13 ht (by decide) ?_
        refine ev_st (fun M1 => ?_)
        exact hk1 _
/-! X12_isOne -/
theorem dd_X12_isOne_0 : decode Y_X12_isOne.2.1 0 = .ok (.aload_n 0, 1) := by decide +kernel
theorem dd_X12_isOne_1 : decode Y_X12_isOne.2.1 1 = .ok (.iload_n 1, 1) := by decide +kernel
theorem dd_X12_isOne_2 : decode Y_X12_isOne.2.1 2 = .ok (.ifCond .lt 15, 3) := by decide +kernel
theorem dd_X12_isOne_5 : decode Y_X12_isOne.2.1 5 = .ok (.iload_n 1, 1) := by decide +kernel
theorem dd_X12_isOne_6 : decode Y_X12_isOne.2.1 6 = .ok (.aload_n 0, 1) := by decide +kernel
theorem dd_X12_isOne_7 : decode Y_X12_isOne.2.1 7 = .ok (.getfield 319, 3) := by decide +kernel
theorem dd_X12_isOne_10 : decode Y_X12_isOne.2.1 10 = .ok (.if_icmp .ge 7, 3) := by decide +kernel
theorem dd_X12_isOne_13 : decode Y_X12_isOne.2.1 13 = .ok (.iconst 1, 1) := by decide +kernel
theorem dd_X12_isOne_14 : decode Y_X12_isOne.2.1 14 = .ok (.goto 4, 3) := by decide +kernel
theorem dd_X12_isOne_17 : decode Y_X12_isOne.2.1 17 = .ok (.iconst 0, 1) := by decide +kernel
theorem dd_X12_isOne_18 : decode Y_X12_isOne.2.1 18 = .ok (.iconst 1, 1) := by decide +kernel
theorem dd_X12_isOne_19 : decode Y_X12_isOne.2.1 19 = .ok (.invokevirtual 312, 3) := by decide +kernel
theorem dd_X12_isOne_22 : decode Y_X12_isOne.2.1 22 = .ok (.ireturn, 1) := by decide +kernel
def F_X12_isOne (t : Nat) (a1 : Int32) (M : zM) : zO := zjo (fun (w1 : Int32) (M2 : zM) => zbI (F_X12_right t w1 1 M2) (fun r1 M3 => zck (zbo r1) (zI r1 M3))) (fun (k1 : Int32 → zM → zO) => zjo (fun  (M1 : zM) => k1 0 M1) (fun (k2 : zM → zO) => zit (a1 < 0) (k2 M) (zit ((M t 1) ≤ a1) (k2 M) (k1 1 M))))
set_option maxHeartbeats 1000000 in
set_option maxRecDepth 20000 in
theorem ct_X12_isOne (l : Launch) (hl : l.stackTraces = false) (G : zG) (t : Nat) (ht : zsh t = 12) (a1 : Int32) (M : zM) : zMt l G Y_X12_isOne 2 [.ref (G.2.1 + t), .int a1] M (F_X12_isOne t a1 M) := by
  refine zMt_of (by decide +kernel) (Nat.le_of_ble_eq_true rfl) ?_
  show zEv l G Y_X12_isOne 2 0 0 [(0, .ref (G.2.1 + t)), (1, .int a1)] [] M (zjo (fun (w1 : Int32) (M2 : zM) => zbI (F_X12_right t w1 1 M2) (fun r1 M3 => zck (zbo r1) (zI r1 M3))) (fun (k1 : Int32 → zM → zO) => zjo (fun  (M1 : zM) => k1 0 M1) (fun (k2 : zM → zO) => zit (a1 < 0) (k2 M) (zit ((M t 1) ≤ a1) (k2 M) (k1 1 M)))))
  refine ev_aload_n dd_X12_isOne_0 0 rfl ?_
  refine ev_iload_n dd_X12_isOne_1 1 rfl ?_
  refine ev_jo (fun (k1 : Int32 → zM → zO) => ∀ (w1 : Int32) (M2 : zM), zEv l G Y_X12_isOne 2 0 18 [] [.int w1, .ref (G.2.1 + t)] M2 (k1 w1 M2)) ?_ (fun k1 hk1 => ?_)
  · intro w1 M2
    refine ev_iconst (v := 1) dd_X12_isOne_18 (by decide) ?_
    refine ev_callVI (As := [.int w1, .int 1]) cl_RX12_312 (ct_X12_right l hl G t ht w1 1 M2) dd_X12_isOne_19 ht (by decide) (Nat.le_of_ble_eq_true rfl) (Nat.le_of_ble_eq_true rfl) rfl rfl (fun r1 M3 => ?_)
    exact ev_zret dd_X12_isOne_22 rfl (Nat.le_of_ble_eq_true rfl) rfl
  · refine ev_jo (fun (k2 : zM → zO) => ∀  (M1 : zM), zEv l G Y_X12_isOne 2 0 17 [] [.ref (G.2.1 + t)] M1 (k2 M1)) ?_ (fun k2 hk2 => ?_)
    · intro M1
      refine ev_iconst (v := 0) dd_X12_isOne_17 (by decide) ?_
      exact hk1 _ _
    · refine ev_if_lt 17 dd_X12_isOne_2 (by decide) ?_ ?_
      · refine ev_lv (lv' := []) [] rfl ?_
        exact hk2 _
      · refine ev_iload_n dd_X12_isOne_5 1 rfl ?_
        refine ev_lv (lv' := [(0, .ref (G.2.1 + t))]) [0] rfl ?_
        refine ev_aload_n dd_X12_isOne_6 0 rfl ?_
        refine ev_lv (lv' := []) [] rfl ?_
        refine ev_getI gf_RX12_319 dd_X12_isOne_7 ht (by decide) ?_
        refine ev_icmp_ge 17 dd_X12_isOne_10 (by decide) ?_ ?_
        · exact hk2 _
        · refine ev_iconst (v := 1) dd_X12_isOne_13 (by decide) ?_
          refine ev_goto 18 dd_X12_isOne_14 (by decide) ?_
          exact hk1 _ _
/-! X12_areTwo -/
theorem dd_X12_areTwo_0 : decode Y_X12_areTwo.2.1 0 = .ok (.aload_n 0, 1) := by decide +kernel
theorem dd_X12_areTwo_1 : decode Y_X12_areTwo.2.1 1 = .ok (.iload_n 1, 1) := by decide +kernel
theorem dd_X12_areTwo_2 : decode Y_X12_areTwo.2.1 2 = .ok (.invokevirtual 346, 3) := by decide +kernel
theorem dd_X12_areTwo_5 : decode Y_X12_areTwo.2.1 5 = .ok (.ifCond .eq 33, 3) := by decide +kernel
theorem dd_X12_areTwo_8 : decode Y_X12_areTwo.2.1 8 = .ok (.aload_n 0, 1) := by decide +kernel
theorem dd_X12_areTwo_9 : decode Y_X12_areTwo.2.1 9 = .ok (.iload_n 2, 1) := by decide +kernel
theorem dd_X12_areTwo_10 : decode Y_X12_areTwo.2.1 10 = .ok (.invokevirtual 346, 3) := by decide +kernel
theorem dd_X12_areTwo_13 : decode Y_X12_areTwo.2.1 13 = .ok (.ifCond .eq 25, 3) := by decide +kernel
theorem dd_X12_areTwo_16 : decode Y_X12_areTwo.2.1 16 = .ok (.aload_n 0, 1) := by decide +kernel
theorem dd_X12_areTwo_17 : decode Y_X12_areTwo.2.1 17 = .ok (.iload_n 1, 1) := by decide +kernel
theorem dd_X12_areTwo_18 : decode Y_X12_areTwo.2.1 18 = .ok (.iload_n 2, 1) := by decide +kernel
theorem dd_X12_areTwo_19 : decode Y_X12_areTwo.2.1 19 = .ok (.if_icmp .eq 7, 3) := by decide +kernel
theorem dd_X12_areTwo_22 : decode Y_X12_areTwo.2.1 22 = .ok (.iconst 1, 1) := by decide +kernel
theorem dd_X12_areTwo_23 : decode Y_X12_areTwo.2.1 23 = .ok (.goto 4, 3) := by decide +kernel
theorem dd_X12_areTwo_26 : decode Y_X12_areTwo.2.1 26 = .ok (.iconst 0, 1) := by decide +kernel
theorem dd_X12_areTwo_27 : decode Y_X12_areTwo.2.1 27 = .ok (.iconst 2, 1) := by decide +kernel
theorem dd_X12_areTwo_28 : decode Y_X12_areTwo.2.1 28 = .ok (.invokevirtual 312, 3) := by decide +kernel
theorem dd_X12_areTwo_31 : decode Y_X12_areTwo.2.1 31 = .ok (.ifCond .eq 7, 3) := by decide +kernel
theorem dd_X12_areTwo_34 : decode Y_X12_areTwo.2.1 34 = .ok (.iconst 1, 1) := by decide +kernel
theorem dd_X12_areTwo_35 : decode Y_X12_areTwo.2.1 35 = .ok (.goto 4, 3) := by decide +kernel
theorem dd_X12_areTwo_38 : decode Y_X12_areTwo.2.1 38 = .ok (.iconst 0, 1) := by decide +kernel
theorem dd_X12_areTwo_39 : decode Y_X12_areTwo.2.1 39 = .ok (.ireturn, 1) := by decide +kernel
def F_X12_areTwo (t : Nat) (a1 : Int32) (a2 : Int32) (M : zM) : zO := zbI (F_X12_isOne t a1 M) (fun r1 M1 => zjo (fun (w2 : Int32) (M6 : zM) => zck (zbo w2) (zI w2 M6)) (fun (k1 : Int32 → zM → zO) => zjo (fun  (M5 : zM) => k1 0 M5) (fun (k2 : zM → zO) => zit (r1 = 0) (k2 M1) (zbI (F_X12_isOne t a2 M1) (fun r2 M2 => zit (r2 = 0) (k2 M2) (zjo (fun (w1 : Int32) (M3 : zM) => zbI (F_X12_right t w1 2 M3) (fun r3 M4 => zit (r3 = 0) (k2 M4) (k1 1 M4))) (fun (k3 : Int32 → zM → zO) => zit (a1 = a2) (k3 0 M2) (k3 1 M2))))))))
set_option maxHeartbeats 1000000 in
set_option maxRecDepth 20000 in
theorem ct_X12_areTwo (l : Launch) (hl : l.stackTraces = false) (G : zG) (t : Nat) (ht : zsh t = 12) (a1 : Int32) (a2 : Int32) (M : zM) : zMt l G Y_X12_areTwo 3 [.ref (G.2.1 + t), .int a1, .int a2] M (F_X12_areTwo t a1 a2 M) := by
  refine zMt_of (by decide +kernel) (Nat.le_of_ble_eq_true rfl) ?_
  show zEv l G Y_X12_areTwo 3 0 0 [(0, .ref (G.2.1 + t)), (1, .int a1), (2, .int a2)] [] M (zbI (F_X12_isOne t a1 M) (fun r1 M1 => zjo (fun (w2 : Int32) (M6 : zM) => zck (zbo w2) (zI w2 M6)) (fun (k1 : Int32 → zM → zO) => zjo (fun  (M5 : zM) => k1 0 M5) (fun (k2 : zM → zO) => zit (r1 = 0) (k2 M1) (zbI (F_X12_isOne t a2 M1) (fun r2 M2 => zit (r2 = 0) (k2 M2) (zjo (fun (w1 : Int32) (M3 : zM) => zbI (F_X12_right t w1 2 M3) (fun r3 M4 => zit (r3 = 0) (k2 M4) (k1 1 M4))) (fun (k3 : Int32 → zM → zO) => zit (a1 = a2) (k3 0 M2) (k3 1 M2)))))))))
  refine ev_aload_n dd_X12_areTwo_0 0 rfl ?_
  refine ev_iload_n dd_X12_areTwo_1 1 rfl ?_
  refine ev_callVI (As := [.int a1]) cl_RX12_346 (ct_X12_isOne l hl G t ht a1 M) dd_X12_areTwo_2 ht (by decide) (Nat.le_of_ble_eq_true rfl) (Nat.le_of_ble_eq_true rfl) rfl rfl (fun r1 M1 => ?_)
  refine ev_jo (fun (k1 : Int32 → zM → zO) => ∀ (w2 : Int32) (M6 : zM), zEv l G Y_X12_areTwo 3 0 39 [] [.int w2] M6 (k1 w2 M6)) ?_ (fun k1 hk1 => ?_)
  · intro w2 M6
    exact ev_zret dd_X12_areTwo_39 rfl (Nat.le_of_ble_eq_true rfl) rfl
  · refine ev_jo (fun (k2 : zM → zO) => ∀  (M5 : zM), zEv l G Y_X12_areTwo 3 0 38 [] [] M5 (k2 M5)) ?_ (fun k2 hk2 => ?_)
    · intro M5
      refine ev_iconst (v := 0) dd_X12_areTwo_38 (by decide) ?_
      exact hk1 _ _
    · refine ev_if_eq 38 dd_X12_areTwo_5 (by decide) ?_ ?_
      · refine ev_lv (lv' := []) [] rfl ?_
        exact hk2 _
      · refine ev_aload_n dd_X12_areTwo_8 0 rfl ?_
        refine ev_iload_n dd_X12_areTwo_9 2 rfl ?_
        refine ev_callVI (As := [.int a2]) cl_RX12_346 (ct_X12_isOne l hl G t ht a2 M1) dd_X12_areTwo_10 ht (by decide) (Nat.le_of_ble_eq_true rfl) (Nat.le_of_ble_eq_true rfl) rfl rfl (fun r2 M2 => ?_)
        refine ev_if_eq 38 dd_X12_areTwo_13 (by decide) ?_ ?_
        · refine ev_lv (lv' := []) [] rfl ?_
          exact hk2 _
        · refine ev_aload_n dd_X12_areTwo_16 0 rfl ?_
          refine ev_lv (lv' := [(1, .int a1), (2, .int a2)]) [1, 2] rfl ?_
          refine ev_iload_n dd_X12_areTwo_17 0 rfl ?_
          refine ev_lv (lv' := [(2, .int a2)]) [1] rfl ?_
          refine ev_iload_n dd_X12_areTwo_18 0 rfl ?_
          refine ev_lv (lv' := []) [] rfl ?_
          refine ev_jo (fun (k3 : Int32 → zM → zO) => ∀ (w1 : Int32) (M3 : zM), zEv l G Y_X12_areTwo 3 0 27 [] [.int w1, .ref (G.2.1 + t)] M3 (k3 w1 M3)) ?_ (fun k3 hk3 => ?_)
          · intro w1 M3
            refine ev_iconst (v := 2) dd_X12_areTwo_27 (by decide) ?_
            refine ev_callVI (As := [.int w1, .int 2]) cl_RX12_312 (ct_X12_right l hl G t ht w1 2 M3) dd_X12_areTwo_28 ht (by decide) (Nat.le_of_ble_eq_true rfl) (Nat.le_of_ble_eq_true rfl) rfl rfl (fun r3 M4 => ?_)
            refine ev_if_eq 38 dd_X12_areTwo_31 (by decide) ?_ ?_
            · exact hk2 _
            · refine ev_iconst (v := 1) dd_X12_areTwo_34 (by decide) ?_
              refine ev_goto 39 dd_X12_areTwo_35 (by decide) ?_
              exact hk1 _ _
          · refine ev_icmp_eq 26 dd_X12_areTwo_19 (by decide) ?_ ?_
            · refine ev_iconst (v := 0) dd_X12_areTwo_26 (by decide) ?_
              exact hk3 _ _
            · refine ev_iconst (v := 1) dd_X12_areTwo_22 (by decide) ?_
              refine ev_goto 27 dd_X12_areTwo_23 (by decide) ?_
              exact hk3 _ _
/-! X12_atHome -/
theorem dd_X12_atHome_0 : decode Y_X12_atHome.2.1 0 = .ok (.iconst 0, 1) := by decide +kernel
theorem dd_X12_atHome_1 : decode Y_X12_atHome.2.1 1 = .ok (.istore_n 1, 1) := by decide +kernel
theorem dd_X12_atHome_2 : decode Y_X12_atHome.2.1 2 = .ok (.iconst 0, 1) := by decide +kernel
theorem dd_X12_atHome_3 : decode Y_X12_atHome.2.1 3 = .ok (.istore_n 2, 1) := by decide +kernel
theorem dd_X12_atHome_4 : decode Y_X12_atHome.2.1 4 = .ok (.iload_n 2, 1) := by decide +kernel
theorem dd_X12_atHome_5 : decode Y_X12_atHome.2.1 5 = .ok (.aload_n 0, 1) := by decide +kernel
theorem dd_X12_atHome_6 : decode Y_X12_atHome.2.1 6 = .ok (.getfield 319, 3) := by decide +kernel
theorem dd_X12_atHome_9 : decode Y_X12_atHome.2.1 9 = .ok (.if_icmp .ge 27, 3) := by decide +kernel
theorem dd_X12_atHome_12 : decode Y_X12_atHome.2.1 12 = .ok (.iload_n 1, 1) := by decide +kernel
theorem dd_X12_atHome_13 : decode Y_X12_atHome.2.1 13 = .ok (.aload_n 0, 1) := by decide +kernel
theorem dd_X12_atHome_14 : decode Y_X12_atHome.2.1 14 = .ok (.getfield 87, 3) := by decide +kernel
theorem dd_X12_atHome_17 : decode Y_X12_atHome.2.1 17 = .ok (.iload_n 2, 1) := by decide +kernel
theorem dd_X12_atHome_18 : decode Y_X12_atHome.2.1 18 = .ok (.iaload, 1) := by decide +kernel
theorem dd_X12_atHome_19 : decode Y_X12_atHome.2.1 19 = .ok (.iload_n 2, 1) := by decide +kernel
theorem dd_X12_atHome_20 : decode Y_X12_atHome.2.1 20 = .ok (.if_icmp .ne 7, 3) := by decide +kernel
theorem dd_X12_atHome_23 : decode Y_X12_atHome.2.1 23 = .ok (.iconst 1, 1) := by decide +kernel
theorem dd_X12_atHome_24 : decode Y_X12_atHome.2.1 24 = .ok (.goto 4, 3) := by decide +kernel
theorem dd_X12_atHome_27 : decode Y_X12_atHome.2.1 27 = .ok (.iconst 0, 1) := by decide +kernel
theorem dd_X12_atHome_28 : decode Y_X12_atHome.2.1 28 = .ok (.iadd, 1) := by decide +kernel
theorem dd_X12_atHome_29 : decode Y_X12_atHome.2.1 29 = .ok (.istore_n 1, 1) := by decide +kernel
theorem dd_X12_atHome_30 : decode Y_X12_atHome.2.1 30 = .ok (.iinc 2 1, 3) := by decide +kernel
theorem dd_X12_atHome_33 : decode Y_X12_atHome.2.1 33 = .ok (.goto (-29), 3) := by decide +kernel
theorem dd_X12_atHome_36 : decode Y_X12_atHome.2.1 36 = .ok (.iload_n 1, 1) := by decide +kernel
theorem dd_X12_atHome_37 : decode Y_X12_atHome.2.1 37 = .ok (.ireturn, 1) := by decide +kernel
def F_X12_atHome_L4 (x0 : Nat) (K36 : Int32 → zM → zO) : Nat → Int32 → Int32 → zM → zO
  | 0, _, _, _ => none
  | n + 1, x1, x2, M => zit ((M x0 1) ≤ x2) (K36 x1 M) (zck (zin x2 73) (zjo (fun (w1 : Int32) (M1 : zM) => zlt (x1 + w1) (fun v1 => F_X12_atHome_L4 x0 K36 n v1 (x2 + 1) M1)) (fun (k1 : Int32 → zM → zO) => zit ((M (zgr x0 47) (zix x2)) = x2) (k1 1 M) (k1 0 M))))
def F_X12_atHome (t : Nat) (M : zM) : zO := F_X12_atHome_L4 t (fun (y1 : Int32) (M2 : zM) => zI y1 M2) zN 0 0 M
set_option maxHeartbeats 1000000 in
set_option maxRecDepth 20000 in
theorem ct_X12_atHome_L4 (l : Launch) (hl : l.stackTraces = false) (G : zG) (x0 : Nat) (hx0 : zsh x0 = 12) (K36 : Int32 → zM → zO) (hK36 : ∀ (x1 : Int32) (M : zM), zEv l G Y_X12_atHome 1 0 36 [(1, .int x1)] [] M (K36 x1 M)) : ∀ (n : Nat) (x1 : Int32) (x2 : Int32) (M : zM), zEv l G Y_X12_atHome 1 0 4 [(0, .ref (G.2.1 + x0)), (1, .int x1), (2, .int x2)] [] M (F_X12_atHome_L4 x0 K36 n x1 x2 M) := by
  intro n
  induction n with
  | zero => intro x1 x2 M; exact ev_none
  | succ n ih =>
    intro x1 x2 M
    show zEv l G Y_X12_atHome 1 0 4 [(0, .ref (G.2.1 + x0)), (1, .int x1), (2, .int x2)] [] M (zit ((M x0 1) ≤ x2) (K36 x1 M) (zck (zin x2 73) (zjo (fun (w1 : Int32) (M1 : zM) => zlt (x1 + w1) (fun v1 => F_X12_atHome_L4 x0 K36 n v1 (x2 + 1) M1)) (fun (k1 : Int32 → zM → zO) => zit ((M (zgr x0 47) (zix x2)) = x2) (k1 1 M) (k1 0 M)))))
    refine ev_iload_n dd_X12_atHome_4 2 rfl ?_
    refine ev_aload_n dd_X12_atHome_5 0 rfl ?_
    refine ev_getI gf_RX12_319 dd_X12_atHome_6 hx0 (by decide) ?_
    refine ev_icmp_ge 36 dd_X12_atHome_9 (by decide) ?_ ?_
    · refine ev_lv (lv' := [(1, .int x1)]) [1] rfl ?_
      exact hK36 _ _
    · refine ev_iload_n dd_X12_atHome_12 1 rfl ?_
      refine ev_lv (lv' := [(0, .ref (G.2.1 + x0)), (2, .int x2)]) [0, 2] rfl ?_
      refine ev_aload_n dd_X12_atHome_13 0 rfl ?_
      refine ev_getR gf_RX12_87 dd_X12_atHome_14 hx0 (by decide) ?_
      refine ev_iload_n dd_X12_atHome_17 1 rfl ?_
      refine ev_iald dd_X12_atHome_18 ((zg_12_47 hx0).1) ((zg_12_47 hx0).2) ?_
      refine ev_iload_n dd_X12_atHome_19 1 rfl ?_
      refine ev_jo (fun (k1 : Int32 → zM → zO) => ∀ (w1 : Int32) (M1 : zM), zEv l G Y_X12_atHome 1 0 28 [(0, .ref (G.2.1 + x0)), (2, .int x2)] [.int w1, .int x1] M1 (k1 w1 M1)) ?_ (fun k1 hk1 => ?_)
      · intro w1 M1
        refine ev_iadd dd_X12_atHome_28 ?_
        refine ev_topi (fun v1 => ?_)
        refine ev_istore_n (i := 1) (lv' := [(0, .ref (G.2.1 + x0)), (1, .int v1), (2, .int x2)]) [1, 0, 2] dd_X12_atHome_29 rfl (by decide) rfl ?_
        refine ev_iinc (j := 2) (v := 1) (lv' := [(0, .ref (G.2.1 + x0)), (1, .int v1), (2, .int (x2 + 1))]) [1, 2, 0] dd_X12_atHome_30 rfl (by decide) (by decide) rfl ?_
        refine ev_goto 4 dd_X12_atHome_33 (by decide) ?_
        exact ih _ _ _
      · refine ev_icmp_ne 27 dd_X12_atHome_20 (by decide) ?_ ?_
        · refine ev_iconst (v := 0) dd_X12_atHome_27 (by decide) ?_
          exact hk1 _ _
        · refine ev_iconst (v := 1) dd_X12_atHome_23 (by decide) ?_
          refine ev_goto 28 dd_X12_atHome_24 (by decide) ?_
          exact hk1 _ _
set_option maxHeartbeats 1000000 in
set_option maxRecDepth 20000 in
theorem ct_X12_atHome (l : Launch) (hl : l.stackTraces = false) (G : zG) (t : Nat) (ht : zsh t = 12) (M : zM) : zMt l G Y_X12_atHome 1 [.ref (G.2.1 + t)] M (F_X12_atHome t M) := by
  refine zMt_of (by decide +kernel) (Nat.le_of_ble_eq_true rfl) ?_
  show zEv l G Y_X12_atHome 1 0 0 [(0, .ref (G.2.1 + t))] [] M (F_X12_atHome_L4 t (fun (y1 : Int32) (M2 : zM) => zI y1 M2) zN 0 0 M)
  refine ev_iconst (v := 0) dd_X12_atHome_0 (by decide) ?_
  refine ev_istore_n (i := 1) (lv' := [(0, .ref (G.2.1 + t)), (1, .int 0)]) [1, 0] dd_X12_atHome_1 rfl (by decide) rfl ?_
  refine ev_iconst (v := 0) dd_X12_atHome_2 (by decide) ?_
  refine ev_istore_n (i := 2) (lv' := [(0, .ref (G.2.1 + t)), (1, .int 0), (2, .int 0)]) [1, 2, 0] dd_X12_atHome_3 rfl (by decide) rfl ?_
  refine ct_X12_atHome_L4 l hl G t ht _ (fun y1 M2 => ?_) zN _ _ _
  refine ev_iload_n dd_X12_atHome_36 0 rfl ?_
  refine ev_lv (lv' := []) [] rfl ?_
  exact ev_iret dd_X12_atHome_37 rfl (Nat.le_of_ble_eq_true rfl) rfl
/-! X12_bits -/
theorem dd_X12_bits_0 : decode Y_X12_bits.2.1 0 = .ok (.iconst 0, 1) := by decide +kernel
theorem dd_X12_bits_1 : decode Y_X12_bits.2.1 1 = .ok (.istore_n 1, 1) := by decide +kernel
theorem dd_X12_bits_2 : decode Y_X12_bits.2.1 2 = .ok (.iconst 0, 1) := by decide +kernel
theorem dd_X12_bits_3 : decode Y_X12_bits.2.1 3 = .ok (.istore_n 2, 1) := by decide +kernel
theorem dd_X12_bits_4 : decode Y_X12_bits.2.1 4 = .ok (.iload_n 2, 1) := by decide +kernel
theorem dd_X12_bits_5 : decode Y_X12_bits.2.1 5 = .ok (.bipush 8, 2) := by decide +kernel
theorem dd_X12_bits_7 : decode Y_X12_bits.2.1 7 = .ok (.if_icmp .ge 17, 3) := by decide +kernel
theorem dd_X12_bits_10 : decode Y_X12_bits.2.1 10 = .ok (.iload_n 1, 1) := by decide +kernel
theorem dd_X12_bits_11 : decode Y_X12_bits.2.1 11 = .ok (.iload_n 0, 1) := by decide +kernel
theorem dd_X12_bits_12 : decode Y_X12_bits.2.1 12 = .ok (.iload_n 2, 1) := by decide +kernel
theorem dd_X12_bits_13 : decode Y_X12_bits.2.1 13 = .ok (.ishr, 1) := by decide +kernel
theorem dd_X12_bits_14 : decode Y_X12_bits.2.1 14 = .ok (.iconst 1, 1) := by decide +kernel
theorem dd_X12_bits_15 : decode Y_X12_bits.2.1 15 = .ok (.iand, 1) := by decide +kernel
theorem dd_X12_bits_16 : decode Y_X12_bits.2.1 16 = .ok (.iadd, 1) := by decide +kernel
theorem dd_X12_bits_17 : decode Y_X12_bits.2.1 17 = .ok (.istore_n 1, 1) := by decide +kernel
theorem dd_X12_bits_18 : decode Y_X12_bits.2.1 18 = .ok (.iinc 2 1, 3) := by decide +kernel
theorem dd_X12_bits_21 : decode Y_X12_bits.2.1 21 = .ok (.goto (-17), 3) := by decide +kernel
theorem dd_X12_bits_24 : decode Y_X12_bits.2.1 24 = .ok (.iload_n 1, 1) := by decide +kernel
theorem dd_X12_bits_25 : decode Y_X12_bits.2.1 25 = .ok (.ireturn, 1) := by decide +kernel
def F_X12_bits_L4 (x0 : Int32) (K24 : Int32 → zM → zO) : Nat → Int32 → Int32 → zM → zO
  | 0, _, _, _ => none
  | n + 1, x1, x2, M => zit (8 ≤ x2) (K24 x1 M) (zlt (x1 + ((x0 >>> (x2 &&& 31)) &&& 1)) (fun v1 => F_X12_bits_L4 x0 K24 n v1 (x2 + 1) M))
def F_X12_bits (a0 : Int32) (M : zM) : zO := F_X12_bits_L4 a0 (fun (y1 : Int32) (M1 : zM) => zI y1 M1) zN 0 0 M
set_option maxHeartbeats 1000000 in
set_option maxRecDepth 20000 in
theorem ct_X12_bits_L4 (l : Launch) (hl : l.stackTraces = false) (G : zG) (x0 : Int32) (K24 : Int32 → zM → zO) (hK24 : ∀ (x1 : Int32) (M : zM), zEv l G Y_X12_bits 1 0 24 [(1, .int x1)] [] M (K24 x1 M)) : ∀ (n : Nat) (x1 : Int32) (x2 : Int32) (M : zM), zEv l G Y_X12_bits 1 0 4 [(0, .int x0), (1, .int x1), (2, .int x2)] [] M (F_X12_bits_L4 x0 K24 n x1 x2 M) := by
  intro n
  induction n with
  | zero => intro x1 x2 M; exact ev_none
  | succ n ih =>
    intro x1 x2 M
    show zEv l G Y_X12_bits 1 0 4 [(0, .int x0), (1, .int x1), (2, .int x2)] [] M (zit (8 ≤ x2) (K24 x1 M) (zlt (x1 + ((x0 >>> (x2 &&& 31)) &&& 1)) (fun v1 => F_X12_bits_L4 x0 K24 n v1 (x2 + 1) M)))
    refine ev_iload_n dd_X12_bits_4 2 rfl ?_
    refine ev_bipush (v := 8) dd_X12_bits_5 (by decide) ?_
    refine ev_icmp_ge 24 dd_X12_bits_7 (by decide) ?_ ?_
    · refine ev_lv (lv' := [(1, .int x1)]) [1] rfl ?_
      exact hK24 _ _
    · refine ev_iload_n dd_X12_bits_10 1 rfl ?_
      refine ev_lv (lv' := [(0, .int x0), (2, .int x2)]) [0, 2] rfl ?_
      refine ev_iload_n dd_X12_bits_11 0 rfl ?_
      refine ev_iload_n dd_X12_bits_12 1 rfl ?_
      refine ev_ishr dd_X12_bits_13 ?_
      refine ev_iconst (v := 1) dd_X12_bits_14 (by decide) ?_
      refine ev_iand dd_X12_bits_15 ?_
      refine ev_iadd dd_X12_bits_16 ?_
      refine ev_topi (fun v1 => ?_)
      refine ev_istore_n (i := 1) (lv' := [(0, .int x0), (1, .int v1), (2, .int x2)]) [1, 0, 2] dd_X12_bits_17 rfl (by decide) rfl ?_
      refine ev_iinc (j := 2) (v := 1) (lv' := [(0, .int x0), (1, .int v1), (2, .int (x2 + 1))]) [1, 2, 0] dd_X12_bits_18 rfl (by decide) (by decide) rfl ?_
      refine ev_goto 4 dd_X12_bits_21 (by decide) ?_
      exact ih _ _ _
set_option maxHeartbeats 1000000 in
set_option maxRecDepth 20000 in
theorem ct_X12_bits (l : Launch) (hl : l.stackTraces = false) (G : zG) (a0 : Int32) (M : zM) : zMt l G Y_X12_bits 1 [.int a0] M (F_X12_bits a0 M) := by
  refine zMt_of (by decide +kernel) (Nat.le_of_ble_eq_true rfl) ?_
  show zEv l G Y_X12_bits 1 0 0 [(0, .int a0)] [] M (F_X12_bits_L4 a0 (fun (y1 : Int32) (M1 : zM) => zI y1 M1) zN 0 0 M)
  refine ev_iconst (v := 0) dd_X12_bits_0 (by decide) ?_
  refine ev_istore_n (i := 1) (lv' := [(0, .int a0), (1, .int 0)]) [1, 0] dd_X12_bits_1 rfl (by decide) rfl ?_
  refine ev_iconst (v := 0) dd_X12_bits_2 (by decide) ?_
  refine ev_istore_n (i := 2) (lv' := [(0, .int a0), (1, .int 0), (2, .int 0)]) [1, 2, 0] dd_X12_bits_3 rfl (by decide) rfl ?_
  refine ct_X12_bits_L4 l hl G a0 _ (fun y1 M1 => ?_) zN _ _ _
  refine ev_iload_n dd_X12_bits_24 0 rfl ?_
  refine ev_lv (lv' := []) [] rfl ?_
  exact ev_iret dd_X12_bits_25 rfl (Nat.le_of_ble_eq_true rfl) rfl
/-! X12_byteAt -/
theorem dd_X12_byteAt_0 : decode Y_X12_byteAt.2.1 0 = .ok (.iload_n 1, 1) := by decide +kernel
theorem dd_X12_byteAt_1 : decode Y_X12_byteAt.2.1 1 = .ok (.aload_n 0, 1) := by decide +kernel
theorem dd_X12_byteAt_2 : decode Y_X12_byteAt.2.1 2 = .ok (.getfield 163, 3) := by decide +kernel
theorem dd_X12_byteAt_5 : decode Y_X12_byteAt.2.1 5 = .ok (.if_icmp .ge 12, 3) := by decide +kernel
theorem dd_X12_byteAt_8 : decode Y_X12_byteAt.2.1 8 = .ok (.aload_n 0, 1) := by decide +kernel
theorem dd_X12_byteAt_9 : decode Y_X12_byteAt.2.1 9 = .ok (.getfield 44, 3) := by decide +kernel
theorem dd_X12_byteAt_12 : decode Y_X12_byteAt.2.1 12 = .ok (.iload_n 1, 1) := by decide +kernel
theorem dd_X12_byteAt_13 : decode Y_X12_byteAt.2.1 13 = .ok (.iaload, 1) := by decide +kernel
theorem dd_X12_byteAt_14 : decode Y_X12_byteAt.2.1 14 = .ok (.goto 4, 3) := by decide +kernel
theorem dd_X12_byteAt_17 : decode Y_X12_byteAt.2.1 17 = .ok (.iconst 0, 1) := by decide +kernel
theorem dd_X12_byteAt_18 : decode Y_X12_byteAt.2.1 18 = .ok (.ireturn, 1) := by decide +kernel
def F_X12_byteAt (t : Nat) (a1 : Int32) (M : zM) : zO := zjo (fun (w1 : Int32) (M1 : zM) => zI w1 M1) (fun (k1 : Int32 → zM → zO) => zit ((M t 19) ≤ a1) (k1 0 M) (zck (zin a1 700) (k1 (M (zgr t 14) (zix a1)) M)))
set_option maxHeartbeats 1000000 in
set_option maxRecDepth 20000 in
theorem ct_X12_byteAt (l : Launch) (hl : l.stackTraces = false) (G : zG) (t : Nat) (ht : zsh t = 12) (a1 : Int32) (M : zM) : zMt l G Y_X12_byteAt 1 [.ref (G.2.1 + t), .int a1] M (F_X12_byteAt t a1 M) := by
  refine zMt_of (by decide +kernel) (Nat.le_of_ble_eq_true rfl) ?_
  show zEv l G Y_X12_byteAt 1 0 0 [(0, .ref (G.2.1 + t)), (1, .int a1)] [] M (zjo (fun (w1 : Int32) (M1 : zM) => zI w1 M1) (fun (k1 : Int32 → zM → zO) => zit ((M t 19) ≤ a1) (k1 0 M) (zck (zin a1 700) (k1 (M (zgr t 14) (zix a1)) M))))
  refine ev_iload_n dd_X12_byteAt_0 1 rfl ?_
  refine ev_aload_n dd_X12_byteAt_1 0 rfl ?_
  refine ev_getI gf_RX12_163 dd_X12_byteAt_2 ht (by decide) ?_
  refine ev_jo (fun (k1 : Int32 → zM → zO) => ∀ (w1 : Int32) (M1 : zM), zEv l G Y_X12_byteAt 1 0 18 [] [.int w1] M1 (k1 w1 M1)) ?_ (fun k1 hk1 => ?_)
  · intro w1 M1
    exact ev_iret dd_X12_byteAt_18 rfl (Nat.le_of_ble_eq_true rfl) rfl
  · refine ev_icmp_ge 17 dd_X12_byteAt_5 (by decide) ?_ ?_
    · refine ev_lv (lv' := []) [] rfl ?_
      refine ev_iconst (v := 0) dd_X12_byteAt_17 (by decide) ?_
      exact hk1 _ _
    · refine ev_aload_n dd_X12_byteAt_8 0 rfl ?_
      refine ev_lv (lv' := [(1, .int a1)]) [1] rfl ?_
      refine ev_getR gf_RX12_44 dd_X12_byteAt_9 ht (by decide) ?_
      refine ev_iload_n dd_X12_byteAt_12 0 rfl ?_
      refine ev_lv (lv' := []) [] rfl ?_
      refine ev_iald dd_X12_byteAt_13 ((zg_12_14 ht).1) ((zg_12_14 ht).2) ?_
      refine ev_goto 18 dd_X12_byteAt_14 (by decide) ?_
      exact hk1 _ _
/-! X12_caravan -/
theorem dd_X12_caravan_0 : decode Y_X12_caravan.2.1 0 = .ok (.aload_n 0, 1) := by decide +kernel
theorem dd_X12_caravan_1 : decode Y_X12_caravan.2.1 1 = .ok (.iconst 0, 1) := by decide +kernel
theorem dd_X12_caravan_2 : decode Y_X12_caravan.2.1 2 = .ok (.putfield 153, 3) := by decide +kernel
theorem dd_X12_caravan_5 : decode Y_X12_caravan.2.1 5 = .ok (.aload_n 0, 1) := by decide +kernel
theorem dd_X12_caravan_6 : decode Y_X12_caravan.2.1 6 = .ok (.iload_n 1, 1) := by decide +kernel
theorem dd_X12_caravan_7 : decode Y_X12_caravan.2.1 7 = .ok (.invokevirtual 346, 3) := by decide +kernel
theorem dd_X12_caravan_10 : decode Y_X12_caravan.2.1 10 = .ok (.ifCond .ne 5, 3) := by decide +kernel
theorem dd_X12_caravan_13 : decode Y_X12_caravan.2.1 13 = .ok (.iconst 0, 1) := by decide +kernel
theorem dd_X12_caravan_14 : decode Y_X12_caravan.2.1 14 = .ok (.ireturn, 1) := by decide +kernel
theorem dd_X12_caravan_15 : decode Y_X12_caravan.2.1 15 = .ok (.iconst 1, 1) := by decide +kernel
theorem dd_X12_caravan_16 : decode Y_X12_caravan.2.1 16 = .ok (.istore_n 2, 1) := by decide +kernel
theorem dd_X12_caravan_17 : decode Y_X12_caravan.2.1 17 = .ok (.aload_n 0, 1) := by decide +kernel
theorem dd_X12_caravan_18 : decode Y_X12_caravan.2.1 18 = .ok (.getfield 87, 3) := by decide +kernel
theorem dd_X12_caravan_21 : decode Y_X12_caravan.2.1 21 = .ok (.iload_n 1, 1) := by decide +kernel
theorem dd_X12_caravan_22 : decode Y_X12_caravan.2.1 22 = .ok (.iaload, 1) := by decide +kernel
theorem dd_X12_caravan_23 : decode Y_X12_caravan.2.1 23 = .ok (.istore_n 3, 1) := by decide +kernel
theorem dd_X12_caravan_24 : decode Y_X12_caravan.2.1 24 = .ok (.iload_n 3, 1) := by decide +kernel
theorem dd_X12_caravan_25 : decode Y_X12_caravan.2.1 25 = .ok (.iload_n 1, 1) := by decide +kernel
theorem dd_X12_caravan_26 : decode Y_X12_caravan.2.1 26 = .ok (.if_icmp .eq 16, 3) := by decide +kernel
theorem dd_X12_caravan_29 : decode Y_X12_caravan.2.1 29 = .ok (.iinc 2 1, 3) := by decide +kernel
theorem dd_X12_caravan_32 : decode Y_X12_caravan.2.1 32 = .ok (.aload_n 0, 1) := by decide +kernel
theorem dd_X12_caravan_33 : decode Y_X12_caravan.2.1 33 = .ok (.getfield 87, 3) := by decide +kernel
theorem dd_X12_caravan_36 : decode Y_X12_caravan.2.1 36 = .ok (.iload_n 3, 1) := by decide +kernel
theorem dd_X12_caravan_37 : decode Y_X12_caravan.2.1 37 = .ok (.iaload, 1) := by decide +kernel
theorem dd_X12_caravan_38 : decode Y_X12_caravan.2.1 38 = .ok (.istore_n 3, 1) := by decide +kernel
theorem dd_X12_caravan_39 : decode Y_X12_caravan.2.1 39 = .ok (.goto (-15), 3) := by decide +kernel
theorem dd_X12_caravan_42 : decode Y_X12_caravan.2.1 42 = .ok (.iload_n 2, 1) := by decide +kernel
theorem dd_X12_caravan_43 : decode Y_X12_caravan.2.1 43 = .ok (.ireturn, 1) := by decide +kernel
def F_X12_caravan_L24 (x0 : Nat) (x1 : Int32) (K42 : Int32 → zM → zO) : Nat → Int32 → Int32 → zM → zO
  | 0, _, _, _ => none
  | n + 1, x2, x3, M => zit (x3 = x1) (K42 x2 M) (zck (zin x3 73) (zlt (M (zgr x0 47) (zix x3)) (fun v2 => F_X12_caravan_L24 x0 x1 K42 n (x2 + 1) v2 M)))
def F_X12_caravan (t : Nat) (a1 : Int32) (M : zM) : zO := zst (zup M t 0 0) (fun M1 => zbI (F_X12_isOne t a1 M1) (fun r1 M2 => zit (r1 = 0) (zI 0 M2) (zck (zin a1 73) (zlt (M2 (zgr t 47) (zix a1)) (fun v1 => F_X12_caravan_L24 t a1 (fun (y1 : Int32) (M3 : zM) => zI y1 M3) zN 1 v1 M2)))))
set_option maxHeartbeats 1000000 in
set_option maxRecDepth 20000 in
theorem ct_X12_caravan_L24 (l : Launch) (hl : l.stackTraces = false) (G : zG) (x0 : Nat) (hx0 : zsh x0 = 12) (x1 : Int32) (K42 : Int32 → zM → zO) (hK42 : ∀ (x2 : Int32) (M : zM), zEv l G Y_X12_caravan 3 0 42 [(2, .int x2)] [] M (K42 x2 M)) : ∀ (n : Nat) (x2 : Int32) (x3 : Int32) (M : zM), zEv l G Y_X12_caravan 3 0 24 [(0, .ref (G.2.1 + x0)), (1, .int x1), (2, .int x2), (3, .int x3)] [] M (F_X12_caravan_L24 x0 x1 K42 n x2 x3 M) := by
  intro n
  induction n with
  | zero => intro x2 x3 M; exact ev_none
  | succ n ih =>
    intro x2 x3 M
    show zEv l G Y_X12_caravan 3 0 24 [(0, .ref (G.2.1 + x0)), (1, .int x1), (2, .int x2), (3, .int x3)] [] M (zit (x3 = x1) (K42 x2 M) (zck (zin x3 73) (zlt (M (zgr x0 47) (zix x3)) (fun v2 => F_X12_caravan_L24 x0 x1 K42 n (x2 + 1) v2 M))))
    refine ev_iload_n dd_X12_caravan_24 3 rfl ?_
    refine ev_iload_n dd_X12_caravan_25 1 rfl ?_
    refine ev_icmp_eq 42 dd_X12_caravan_26 (by decide) ?_ ?_
    · refine ev_lv (lv' := [(2, .int x2)]) [2] rfl ?_
      exact hK42 _ _
    · refine ev_iinc (j := 2) (v := 1) (lv' := [(0, .ref (G.2.1 + x0)), (1, .int x1), (2, .int (x2 + 1)), (3, .int x3)]) [1, 2, 0, 3] dd_X12_caravan_29 rfl (by decide) (by decide) rfl ?_
      refine ev_aload_n dd_X12_caravan_32 0 rfl ?_
      refine ev_getR gf_RX12_87 dd_X12_caravan_33 hx0 (by decide) ?_
      refine ev_iload_n dd_X12_caravan_36 3 rfl ?_
      refine ev_lv (lv' := [(0, .ref (G.2.1 + x0)), (1, .int x1), (2, .int (x2 + 1))]) [0, 1, 2] rfl ?_
      refine ev_iald dd_X12_caravan_37 ((zg_12_47 hx0).1) ((zg_12_47 hx0).2) ?_
      refine ev_topi (fun v2 => ?_)
      refine ev_istore_n (i := 3) (lv' := [(0, .ref (G.2.1 + x0)), (1, .int x1), (2, .int (x2 + 1)), (3, .int v2)]) [1, 2, 3, 0] dd_X12_caravan_38 rfl (by decide) rfl ?_
      refine ev_goto 24 dd_X12_caravan_39 (by decide) ?_
      exact ih _ _ _
set_option maxHeartbeats 1000000 in
set_option maxRecDepth 20000 in
theorem ct_X12_caravan (l : Launch) (hl : l.stackTraces = false) (G : zG) (t : Nat) (ht : zsh t = 12) (a1 : Int32) (M : zM) : zMt l G Y_X12_caravan 3 [.ref (G.2.1 + t), .int a1] M (F_X12_caravan t a1 M) := by
  refine zMt_of (by decide +kernel) (Nat.le_of_ble_eq_true rfl) ?_
  show zEv l G Y_X12_caravan 3 0 0 [(0, .ref (G.2.1 + t)), (1, .int a1)] [] M (zst (zup M t 0 0) (fun M1 => zbI (F_X12_isOne t a1 M1) (fun r1 M2 => zit (r1 = 0) (zI 0 M2) (zck (zin a1 73) (zlt (M2 (zgr t 47) (zix a1)) (fun v1 => F_X12_caravan_L24 t a1 (fun (y1 : Int32) (M3 : zM) => zI y1 M3) zN 1 v1 M2))))))
  refine ev_aload_n dd_X12_caravan_0 0 rfl ?_
  refine ev_iconst (v := 0) dd_X12_caravan_1 (by decide) ?_
  refine ev_putI gw_RX12_153 dd_X12_caravan_2 ht (by decide) ?_
  refine ev_st (fun M1 => ?_)
  refine ev_aload_n dd_X12_caravan_5 0 rfl ?_
  refine ev_iload_n dd_X12_caravan_6 1 rfl ?_
  refine ev_callVI (As := [.int a1]) cl_RX12_346 (ct_X12_isOne l hl G t ht a1 M1) dd_X12_caravan_7 ht (by decide) (Nat.le_of_ble_eq_true rfl) (Nat.le_of_ble_eq_true rfl) rfl rfl (fun r1 M2 => ?_)
  refine ev_if_ne 15 dd_X12_caravan_10 (by decide) ?_ ?_
  · refine ev_iconst (v := 1) dd_X12_caravan_15 (by decide) ?_
    refine ev_istore_n (i := 2) (lv' := [(0, .ref (G.2.1 + t)), (1, .int a1), (2, .int 1)]) [1, 2, 0] dd_X12_caravan_16 rfl (by decide) rfl ?_
    refine ev_aload_n dd_X12_caravan_17 0 rfl ?_
    refine ev_getR gf_RX12_87 dd_X12_caravan_18 ht (by decide) ?_
    refine ev_iload_n dd_X12_caravan_21 1 rfl ?_
    refine ev_iald dd_X12_caravan_22 ((zg_12_47 ht).1) ((zg_12_47 ht).2) ?_
    refine ev_topi (fun v1 => ?_)
    refine ev_istore_n (i := 3) (lv' := [(0, .ref (G.2.1 + t)), (1, .int a1), (2, .int 1), (3, .int v1)]) [1, 2, 3, 0] dd_X12_caravan_23 rfl (by decide) rfl ?_
    refine ct_X12_caravan_L24 l hl G t ht a1 _ (fun y1 M3 => ?_) zN _ _ _
    refine ev_iload_n dd_X12_caravan_42 0 rfl ?_
    refine ev_lv (lv' := []) [] rfl ?_
    exact ev_iret dd_X12_caravan_43 rfl (Nat.le_of_ble_eq_true rfl) rfl
  · refine ev_lv (lv' := []) [] rfl ?_
    refine ev_iconst (v := 0) dd_X12_caravan_13 (by decide) ?_
    exact ev_iret dd_X12_caravan_14 rfl (Nat.le_of_ble_eq_true rfl) rfl
/-! X12_copies -/
theorem dd_X12_copies_0 : decode Y_X12_copies.2.1 0 = .ok (.iconst 0, 1) := by decide +kernel
theorem dd_X12_copies_1 : decode Y_X12_copies.2.1 1 = .ok (.istore_n 3, 1) := by decide +kernel
theorem dd_X12_copies_2 : decode Y_X12_copies.2.1 2 = .ok (.iload_n 3, 1) := by decide +kernel
theorem dd_X12_copies_3 : decode Y_X12_copies.2.1 3 = .ok (.aload_n 1, 1) := by decide +kernel
theorem dd_X12_copies_4 : decode Y_X12_copies.2.1 4 = .ok (.arraylength, 1) := by decide +kernel
theorem dd_X12_copies_5 : decode Y_X12_copies.2.1 5 = .ok (.if_icmp .ge 15, 3) := by decide +kernel
theorem dd_X12_copies_8 : decode Y_X12_copies.2.1 8 = .ok (.aload_n 2, 1) := by decide +kernel
theorem dd_X12_copies_9 : decode Y_X12_copies.2.1 9 = .ok (.iload_n 3, 1) := by decide +kernel
theorem dd_X12_copies_10 : decode Y_X12_copies.2.1 10 = .ok (.aload_n 1, 1) := by decide +kernel
theorem dd_X12_copies_11 : decode Y_X12_copies.2.1 11 = .ok (.iload_n 3, 1) := by decide +kernel
theorem dd_X12_copies_12 : decode Y_X12_copies.2.1 12 = .ok (.iaload, 1) := by decide +kernel
theorem dd_X12_copies_13 : decode Y_X12_copies.2.1 13 = .ok (.iastore, 1) := by decide +kernel
theorem dd_X12_copies_14 : decode Y_X12_copies.2.1 14 = .ok (.iinc 3 1, 3) := by decide +kernel
theorem dd_X12_copies_17 : decode Y_X12_copies.2.1 17 = .ok (.goto (-15), 3) := by decide +kernel
theorem dd_X12_copies_20 : decode Y_X12_copies.2.1 20 = .ok (.return_, 1) := by decide +kernel
def F_X12_copies_L2 (x1 : Nat) (x2 : Nat) (K20 : zM → zO) : Nat → Int32 → zM → zO
  | 0, _, _ => none
  | n + 1, x3, M => zit ((Int32.ofNat (zal x1)) ≤ x3) (K20 M) (zck (zin x3 (zal x1)) (zck (zin x3 (zal x2)) (zst (zup M x2 (zix x3) (M x1 (zix x3))) (fun M1 => F_X12_copies_L2 x1 x2 K20 n (x3 + 1) M1))))
def F_X12_copies (t : Nat) (a1 : Nat) (a2 : Nat) (M : zM) : zO := F_X12_copies_L2 a1 a2 (fun  (M2 : zM) => zV M2) zN 0 M
set_option maxHeartbeats 1000000 in
set_option maxRecDepth 20000 in
theorem ct_X12_copies_L2 (l : Launch) (hl : l.stackTraces = false) (G : zG) (x1 : Nat) (hx1 : zsh x1 = 20) (x2 : Nat) (hx2 : zsh x2 = 20) (K20 : zM → zO) (hK20 : ∀  (M : zM), zEv l G Y_X12_copies 1 0 20 [] [] M (K20 M)) : ∀ (n : Nat) (x3 : Int32) (M : zM), zEv l G Y_X12_copies 1 0 2 [(1, .ref (G.2.1 + x1)), (2, .ref (G.2.1 + x2)), (3, .int x3)] [] M (F_X12_copies_L2 x1 x2 K20 n x3 M) := by
  intro n
  induction n with
  | zero => intro x3 M; exact ev_none
  | succ n ih =>
    intro x3 M
    show zEv l G Y_X12_copies 1 0 2 [(1, .ref (G.2.1 + x1)), (2, .ref (G.2.1 + x2)), (3, .int x3)] [] M (zit ((Int32.ofNat (zal x1)) ≤ x3) (K20 M) (zck (zin x3 (zal x1)) (zck (zin x3 (zal x2)) (zst (zup M x2 (zix x3) (M x1 (zix x3))) (fun M1 => F_X12_copies_L2 x1 x2 K20 n (x3 + 1) M1)))))
    refine ev_iload_n dd_X12_copies_2 2 rfl ?_
    refine ev_aload_n dd_X12_copies_3 0 rfl ?_
    refine ev_alen (v := Int32.ofNat (zal x1)) dd_X12_copies_4 hx1 (Or.inl rfl) rfl rfl ?_
    refine ev_icmp_ge 20 dd_X12_copies_5 (by decide) ?_ ?_
    · refine ev_lv (lv' := []) [] rfl ?_
      exact hK20 _
    · refine ev_aload_n dd_X12_copies_8 1 rfl ?_
      refine ev_iload_n dd_X12_copies_9 2 rfl ?_
      refine ev_aload_n dd_X12_copies_10 0 rfl ?_
      refine ev_iload_n dd_X12_copies_11 2 rfl ?_
      refine ev_iald dd_X12_copies_12 hx1 rfl ?_
      refine ev_iast dd_X12_copies_13 hx2 rfl ?_
      refine ev_st (fun M1 => ?_)
      refine ev_iinc (j := 2) (v := 1) (lv' := [(1, .ref (G.2.1 + x1)), (2, .ref (G.2.1 + x2)), (3, .int (x3 + 1))]) [1, 2, 0] dd_X12_copies_14 rfl (by decide) (by decide) rfl ?_
      refine ev_goto 2 dd_X12_copies_17 (by decide) ?_
      exact ih _ _
set_option maxHeartbeats 1000000 in
set_option maxRecDepth 20000 in
theorem ct_X12_copies (l : Launch) (hl : l.stackTraces = false) (G : zG) (t : Nat) (ht : zsh t = 12) (a1 : Nat) (ha1 : zsh a1 = 20) (a2 : Nat) (ha2 : zsh a2 = 20) (M : zM) : zMt l G Y_X12_copies 1 [.ref (G.2.1 + t), .ref (G.2.1 + a1), .ref (G.2.1 + a2)] M (F_X12_copies t a1 a2 M) := by
  refine zMt_of (by decide +kernel) (Nat.le_of_ble_eq_true rfl) ?_
  show zEv l G Y_X12_copies 1 0 0 [(0, .ref (G.2.1 + t)), (1, .ref (G.2.1 + a1)), (2, .ref (G.2.1 + a2))] [] M (F_X12_copies_L2 a1 a2 (fun  (M2 : zM) => zV M2) zN 0 M)
  refine ev_lv (lv' := [(1, .ref (G.2.1 + a1)), (2, .ref (G.2.1 + a2))]) [1, 2] rfl ?_
  refine ev_iconst (v := 0) dd_X12_copies_0 (by decide) ?_
  refine ev_istore_n (i := 3) (lv' := [(1, .ref (G.2.1 + a1)), (2, .ref (G.2.1 + a2)), (3, .int 0)]) [1, 2, 0] dd_X12_copies_1 rfl (by decide) rfl ?_
  refine ct_X12_copies_L2 l hl G a1 ha1 a2 ha2 _ (fun M2 => ?_) zN _ _
  exact ev_vret dd_X12_copies_20 rfl (Nat.le_of_ble_eq_true rfl) rfl
/-! X12_draw -/
theorem dd_X12_draw_0 : decode Y_X12_draw.2.1 0 = .ok (.aload_n 0, 1) := by decide +kernel
theorem dd_X12_draw_1 : decode Y_X12_draw.2.1 1 = .ok (.aload_n 0, 1) := by decide +kernel
theorem dd_X12_draw_2 : decode Y_X12_draw.2.1 2 = .ok (.getfield 465, 3) := by decide +kernel
theorem dd_X12_draw_5 : decode Y_X12_draw.2.1 5 = .ok (.ldc_w 468, 3) := by decide +kernel
theorem dd_X12_draw_8 : decode Y_X12_draw.2.1 8 = .ok (.imul, 1) := by decide +kernel
theorem dd_X12_draw_9 : decode Y_X12_draw.2.1 9 = .ok (.sipush 12345, 3) := by decide +kernel
theorem dd_X12_draw_12 : decode Y_X12_draw.2.1 12 = .ok (.iadd, 1) := by decide +kernel
theorem dd_X12_draw_13 : decode Y_X12_draw.2.1 13 = .ok (.putfield 465, 3) := by decide +kernel
theorem dd_X12_draw_16 : decode Y_X12_draw.2.1 16 = .ok (.aload_n 0, 1) := by decide +kernel
theorem dd_X12_draw_17 : decode Y_X12_draw.2.1 17 = .ok (.getfield 465, 3) := by decide +kernel
theorem dd_X12_draw_20 : decode Y_X12_draw.2.1 20 = .ok (.bipush 16, 2) := by decide +kernel
theorem dd_X12_draw_22 : decode Y_X12_draw.2.1 22 = .ok (.ishr, 1) := by decide +kernel
theorem dd_X12_draw_23 : decode Y_X12_draw.2.1 23 = .ok (.sipush 32767, 3) := by decide +kernel
theorem dd_X12_draw_26 : decode Y_X12_draw.2.1 26 = .ok (.iand, 1) := by decide +kernel
theorem dd_X12_draw_27 : decode Y_X12_draw.2.1 27 = .ok (.iload_n 1, 1) := by decide +kernel
theorem dd_X12_draw_28 : decode Y_X12_draw.2.1 28 = .ok (.irem, 1) := by decide +kernel
theorem dd_X12_draw_29 : decode Y_X12_draw.2.1 29 = .ok (.ireturn, 1) := by decide +kernel
def F_X12_draw (t : Nat) (a1 : Int32) (M : zM) : zO := zst (zup M t 72 (((M t 72) * 1103515245) + 12345)) (fun M1 => zck (!decide (a1 = 0)) (zI ((((M1 t 72) >>> ((16 : Int32) &&& 31)) &&& 32767) - (((M1 t 72) >>> ((16 : Int32) &&& 31)) &&& 32767) / a1 * a1) M1))
set_option maxHeartbeats 1000000 in
set_option maxRecDepth 20000 in
theorem ct_X12_draw (l : Launch) (hl : l.stackTraces = false) (G : zG) (t : Nat) (ht : zsh t = 12) (a1 : Int32) (M : zM) : zMt l G Y_X12_draw 1 [.ref (G.2.1 + t), .int a1] M (F_X12_draw t a1 M) := by
  refine zMt_of (by decide +kernel) (Nat.le_of_ble_eq_true rfl) ?_
  show zEv l G Y_X12_draw 1 0 0 [(0, .ref (G.2.1 + t)), (1, .int a1)] [] M (zst (zup M t 72 (((M t 72) * 1103515245) + 12345)) (fun M1 => zck (!decide (a1 = 0)) (zI ((((M1 t 72) >>> ((16 : Int32) &&& 31)) &&& 32767) - (((M1 t 72) >>> ((16 : Int32) &&& 31)) &&& 32767) / a1 * a1) M1)))
  refine ev_aload_n dd_X12_draw_0 0 rfl ?_
  refine ev_aload_n dd_X12_draw_1 0 rfl ?_
  refine ev_getI gf_RX12_465 dd_X12_draw_2 ht (by decide) ?_
  refine ev_ldcw (v := 1103515245) dd_X12_draw_5 wk_RX12_468 ?_
  refine ev_imul dd_X12_draw_8 ?_
  refine ev_sipush (v := 12345) dd_X12_draw_9 (by decide) ?_
  refine ev_iadd dd_X12_draw_12 ?_
  refine ev_putI gw_RX12_465 dd_X12_draw_13 ht (by decide) ?_
  refine ev_st (fun M1 => ?_)
  refine ev_aload_n dd_X12_draw_16 0 rfl ?_
  refine ev_lv (lv' := [(1, .int a1)]) [1] rfl ?_
  refine ev_getI gf_RX12_465 dd_X12_draw_17 ht (by decide) ?_
  refine ev_bipush (v := 16) dd_X12_draw_20 (by decide) ?_
  refine ev_ishr dd_X12_draw_22 ?_
  refine ev_sipush (v := 32767) dd_X12_draw_23 (by decide) ?_
  refine ev_iand dd_X12_draw_26 ?_
  refine ev_iload_n dd_X12_draw_27 0 rfl ?_
  refine ev_lv (lv' := []) [] rfl ?_
  refine ev_irem dd_X12_draw_28 ?_
  exact ev_iret dd_X12_draw_29 rfl (Nat.le_of_ble_eq_true rfl) rfl
/-! X12_works -/
theorem dd_X12_works_0 : decode Y_X12_works.2.1 0 = .ok (.iload_n 0, 1) := by decide +kernel
theorem dd_X12_works_1 : decode Y_X12_works.2.1 1 = .ok (.tableswitch 105 4 10 #[43, 57, 71, 82, 93, 97, 101], 43) := by decide +kernel
theorem dd_X12_works_44 : decode Y_X12_works.2.1 44 = .ok (.iload_n 1, 1) := by decide +kernel
theorem dd_X12_works_45 : decode Y_X12_works.2.1 45 = .ok (.ifCond .eq 11, 3) := by decide +kernel
theorem dd_X12_works_48 : decode Y_X12_works.2.1 48 = .ok (.iload_n 2, 1) := by decide +kernel
theorem dd_X12_works_49 : decode Y_X12_works.2.1 49 = .ok (.ifCond .eq 7, 3) := by decide +kernel
theorem dd_X12_works_52 : decode Y_X12_works.2.1 52 = .ok (.iconst 1, 1) := by decide +kernel
theorem dd_X12_works_53 : decode Y_X12_works.2.1 53 = .ok (.goto 4, 3) := by decide +kernel
theorem dd_X12_works_56 : decode Y_X12_works.2.1 56 = .ok (.iconst 0, 1) := by decide +kernel
theorem dd_X12_works_57 : decode Y_X12_works.2.1 57 = .ok (.ireturn, 1) := by decide +kernel
theorem dd_X12_works_58 : decode Y_X12_works.2.1 58 = .ok (.iload_n 1, 1) := by decide +kernel
theorem dd_X12_works_59 : decode Y_X12_works.2.1 59 = .ok (.ifCond .ne 7, 3) := by decide +kernel
theorem dd_X12_works_62 : decode Y_X12_works.2.1 62 = .ok (.iload_n 2, 1) := by decide +kernel
theorem dd_X12_works_63 : decode Y_X12_works.2.1 63 = .ok (.ifCond .eq 7, 3) := by decide +kernel
theorem dd_X12_works_66 : decode Y_X12_works.2.1 66 = .ok (.iconst 1, 1) := by decide +kernel
theorem dd_X12_works_67 : decode Y_X12_works.2.1 67 = .ok (.goto 4, 3) := by decide +kernel
theorem dd_X12_works_70 : decode Y_X12_works.2.1 70 = .ok (.iconst 0, 1) := by decide +kernel
theorem dd_X12_works_71 : decode Y_X12_works.2.1 71 = .ok (.ireturn, 1) := by decide +kernel
theorem dd_X12_works_72 : decode Y_X12_works.2.1 72 = .ok (.iload_n 1, 1) := by decide +kernel
theorem dd_X12_works_73 : decode Y_X12_works.2.1 73 = .ok (.iload_n 2, 1) := by decide +kernel
theorem dd_X12_works_74 : decode Y_X12_works.2.1 74 = .ok (.if_icmp .ge 7, 3) := by decide +kernel
theorem dd_X12_works_77 : decode Y_X12_works.2.1 77 = .ok (.iconst 1, 1) := by decide +kernel
theorem dd_X12_works_78 : decode Y_X12_works.2.1 78 = .ok (.goto 4, 3) := by decide +kernel
theorem dd_X12_works_81 : decode Y_X12_works.2.1 81 = .ok (.iconst 0, 1) := by decide +kernel
theorem dd_X12_works_82 : decode Y_X12_works.2.1 82 = .ok (.ireturn, 1) := by decide +kernel
theorem dd_X12_works_83 : decode Y_X12_works.2.1 83 = .ok (.iload_n 1, 1) := by decide +kernel
theorem dd_X12_works_84 : decode Y_X12_works.2.1 84 = .ok (.iload_n 2, 1) := by decide +kernel
theorem dd_X12_works_85 : decode Y_X12_works.2.1 85 = .ok (.if_icmp .ne 7, 3) := by decide +kernel
theorem dd_X12_works_88 : decode Y_X12_works.2.1 88 = .ok (.iconst 1, 1) := by decide +kernel
theorem dd_X12_works_89 : decode Y_X12_works.2.1 89 = .ok (.goto 4, 3) := by decide +kernel
theorem dd_X12_works_92 : decode Y_X12_works.2.1 92 = .ok (.iconst 0, 1) := by decide +kernel
theorem dd_X12_works_93 : decode Y_X12_works.2.1 93 = .ok (.ireturn, 1) := by decide +kernel
theorem dd_X12_works_94 : decode Y_X12_works.2.1 94 = .ok (.iload_n 1, 1) := by decide +kernel
theorem dd_X12_works_95 : decode Y_X12_works.2.1 95 = .ok (.iload_n 2, 1) := by decide +kernel
theorem dd_X12_works_96 : decode Y_X12_works.2.1 96 = .ok (.iadd, 1) := by decide +kernel
theorem dd_X12_works_97 : decode Y_X12_works.2.1 97 = .ok (.ireturn, 1) := by decide +kernel
theorem dd_X12_works_98 : decode Y_X12_works.2.1 98 = .ok (.iload_n 1, 1) := by decide +kernel
theorem dd_X12_works_99 : decode Y_X12_works.2.1 99 = .ok (.iload_n 2, 1) := by decide +kernel
theorem dd_X12_works_100 : decode Y_X12_works.2.1 100 = .ok (.isub, 1) := by decide +kernel
theorem dd_X12_works_101 : decode Y_X12_works.2.1 101 = .ok (.ireturn, 1) := by decide +kernel
theorem dd_X12_works_102 : decode Y_X12_works.2.1 102 = .ok (.iload_n 1, 1) := by decide +kernel
theorem dd_X12_works_103 : decode Y_X12_works.2.1 103 = .ok (.iload_n 2, 1) := by decide +kernel
theorem dd_X12_works_104 : decode Y_X12_works.2.1 104 = .ok (.imul, 1) := by decide +kernel
theorem dd_X12_works_105 : decode Y_X12_works.2.1 105 = .ok (.ireturn, 1) := by decide +kernel
theorem dd_X12_works_106 : decode Y_X12_works.2.1 106 = .ok (.iload_n 2, 1) := by decide +kernel
theorem dd_X12_works_107 : decode Y_X12_works.2.1 107 = .ok (.ifCond .ne 7, 3) := by decide +kernel
theorem dd_X12_works_110 : decode Y_X12_works.2.1 110 = .ok (.iconst 0, 1) := by decide +kernel
theorem dd_X12_works_111 : decode Y_X12_works.2.1 111 = .ok (.goto 6, 3) := by decide +kernel
theorem dd_X12_works_114 : decode Y_X12_works.2.1 114 = .ok (.iload_n 1, 1) := by decide +kernel
theorem dd_X12_works_115 : decode Y_X12_works.2.1 115 = .ok (.iload_n 2, 1) := by decide +kernel
theorem dd_X12_works_116 : decode Y_X12_works.2.1 116 = .ok (.idiv, 1) := by decide +kernel
theorem dd_X12_works_117 : decode Y_X12_works.2.1 117 = .ok (.ireturn, 1) := by decide +kernel
def F_X12_works (a0 : Int32) (a1 : Int32) (a2 : Int32) (M : zM) : zO := zit (a0 = 4) (zjo (fun (w1 : Int32) (M2 : zM) => zI w1 M2) (fun (k1 : Int32 → zM → zO) => zjo (fun  (M1 : zM) => k1 0 M1) (fun (k2 : zM → zO) => zit (a1 = 0) (k2 M) (zit (a2 = 0) (k2 M) (k1 1 M))))) (zit (a0 = 5) (zjo (fun (w2 : Int32) (M4 : zM) => zI w2 M4) (fun (k3 : Int32 → zM → zO) => zjo (fun  (M3 : zM) => k3 1 M3) (fun (k4 : zM → zO) => zit (a1 = 0) (zit (a2 = 0) (k3 0 M) (k4 M)) (k4 M)))) (zit (a0 = 6) (zjo (fun (w3 : Int32) (M5 : zM) => zI w3 M5) (fun (k5 : Int32 → zM → zO) => zit (a2 ≤ a1) (k5 0 M) (k5 1 M))) (zit (a0 = 7) (zjo (fun (w4 : Int32) (M6 : zM) => zI w4 M6) (fun (k6 : Int32 → zM → zO) => zit (a1 = a2) (k6 1 M) (k6 0 M))) (zit (a0 = 8) (zI (a1 + a2) M) (zit (a0 = 9) (zI (a1 - a2) M) (zit (a0 = 10) (zI (a1 * a2) M) (zjo (fun (w5 : Int32) (M7 : zM) => zI w5 M7) (fun (k7 : Int32 → zM → zO) => zit (a2 = 0) (k7 0 M) (zck (!decide (a2 = 0)) (k7 (a1 / a2) M))))))))))
set_option maxHeartbeats 1000000 in
set_option maxRecDepth 20000 in
theorem ct_X12_works (l : Launch) (hl : l.stackTraces = false) (G : zG) (a0 : Int32) (a1 : Int32) (a2 : Int32) (M : zM) : zMt l G Y_X12_works 1 [.int a0, .int a1, .int a2] M (F_X12_works a0 a1 a2 M) := by
  refine zMt_of (by decide +kernel) (Nat.le_of_ble_eq_true rfl) ?_
  show zEv l G Y_X12_works 1 0 0 [(0, .int a0), (1, .int a1), (2, .int a2)] [] M (zit (a0 = 4) (zjo (fun (w1 : Int32) (M2 : zM) => zI w1 M2) (fun (k1 : Int32 → zM → zO) => zjo (fun  (M1 : zM) => k1 0 M1) (fun (k2 : zM → zO) => zit (a1 = 0) (k2 M) (zit (a2 = 0) (k2 M) (k1 1 M))))) (zit (a0 = 5) (zjo (fun (w2 : Int32) (M4 : zM) => zI w2 M4) (fun (k3 : Int32 → zM → zO) => zjo (fun  (M3 : zM) => k3 1 M3) (fun (k4 : zM → zO) => zit (a1 = 0) (zit (a2 = 0) (k3 0 M) (k4 M)) (k4 M)))) (zit (a0 = 6) (zjo (fun (w3 : Int32) (M5 : zM) => zI w3 M5) (fun (k5 : Int32 → zM → zO) => zit (a2 ≤ a1) (k5 0 M) (k5 1 M))) (zit (a0 = 7) (zjo (fun (w4 : Int32) (M6 : zM) => zI w4 M6) (fun (k6 : Int32 → zM → zO) => zit (a1 = a2) (k6 1 M) (k6 0 M))) (zit (a0 = 8) (zI (a1 + a2) M) (zit (a0 = 9) (zI (a1 - a2) M) (zit (a0 = 10) (zI (a1 * a2) M) (zjo (fun (w5 : Int32) (M7 : zM) => zI w5 M7) (fun (k7 : Int32 → zM → zO) => zit (a2 = 0) (k7 0 M) (zck (!decide (a2 = 0)) (k7 (a1 / a2) M)))))))))))
  refine ev_iload_n dd_X12_works_0 0 rfl ?_
  refine ev_lv (lv' := [(1, .int a1), (2, .int a2)]) [1, 2] rfl ?_
  refine ev_it (fun hs1 => ?_) (fun hs1 => ?_)
  · refine ev_tabIn (off := 43) (tgt := 44) dd_X12_works_1 4 hs1 (by decide +kernel) ?_
    refine ev_iload_n dd_X12_works_44 0 rfl ?_
    refine ev_lv (lv' := [(2, .int a2)]) [1] rfl ?_
    refine ev_jo (fun (k1 : Int32 → zM → zO) => ∀ (w1 : Int32) (M2 : zM), zEv l G Y_X12_works 1 0 57 [] [.int w1] M2 (k1 w1 M2)) ?_ (fun k1 hk1 => ?_)
    · intro w1 M2
      exact ev_iret dd_X12_works_57 rfl (Nat.le_of_ble_eq_true rfl) rfl
    · refine ev_jo (fun (k2 : zM → zO) => ∀  (M1 : zM), zEv l G Y_X12_works 1 0 56 [] [] M1 (k2 M1)) ?_ (fun k2 hk2 => ?_)
      · intro M1
        refine ev_iconst (v := 0) dd_X12_works_56 (by decide) ?_
        exact hk1 _ _
      · refine ev_if_eq 56 dd_X12_works_45 (by decide) ?_ ?_
        · refine ev_lv (lv' := []) [] rfl ?_
          exact hk2 _
        · refine ev_iload_n dd_X12_works_48 0 rfl ?_
          refine ev_lv (lv' := []) [] rfl ?_
          refine ev_if_eq 56 dd_X12_works_49 (by decide) ?_ ?_
          · exact hk2 _
          · refine ev_iconst (v := 1) dd_X12_works_52 (by decide) ?_
            refine ev_goto 57 dd_X12_works_53 (by decide) ?_
            exact hk1 _ _
  refine ev_it (fun hs2 => ?_) (fun hs2 => ?_)
  · refine ev_tabIn (off := 57) (tgt := 58) dd_X12_works_1 5 hs2 (by decide +kernel) ?_
    refine ev_iload_n dd_X12_works_58 0 rfl ?_
    refine ev_lv (lv' := [(2, .int a2)]) [1] rfl ?_
    refine ev_jo (fun (k3 : Int32 → zM → zO) => ∀ (w2 : Int32) (M4 : zM), zEv l G Y_X12_works 1 0 71 [] [.int w2] M4 (k3 w2 M4)) ?_ (fun k3 hk3 => ?_)
    · intro w2 M4
      exact ev_iret dd_X12_works_71 rfl (Nat.le_of_ble_eq_true rfl) rfl
    · refine ev_jo (fun (k4 : zM → zO) => ∀  (M3 : zM), zEv l G Y_X12_works 1 0 66 [] [] M3 (k4 M3)) ?_ (fun k4 hk4 => ?_)
      · intro M3
        refine ev_iconst (v := 1) dd_X12_works_66 (by decide) ?_
        refine ev_goto 71 dd_X12_works_67 (by decide) ?_
        exact hk3 _ _
      · refine ev_if_ne 66 dd_X12_works_59 (by decide) ?_ ?_
        · refine ev_lv (lv' := []) [] rfl ?_
          exact hk4 _
        · refine ev_iload_n dd_X12_works_62 0 rfl ?_
          refine ev_lv (lv' := []) [] rfl ?_
          refine ev_if_eq 70 dd_X12_works_63 (by decide) ?_ ?_
          · refine ev_iconst (v := 0) dd_X12_works_70 (by decide) ?_
            exact hk3 _ _
          · exact hk4 _
  refine ev_it (fun hs3 => ?_) (fun hs3 => ?_)
  · refine ev_tabIn (off := 71) (tgt := 72) dd_X12_works_1 6 hs3 (by decide +kernel) ?_
    refine ev_iload_n dd_X12_works_72 0 rfl ?_
    refine ev_lv (lv' := [(2, .int a2)]) [1] rfl ?_
    refine ev_iload_n dd_X12_works_73 0 rfl ?_
    refine ev_lv (lv' := []) [] rfl ?_
    refine ev_jo (fun (k5 : Int32 → zM → zO) => ∀ (w3 : Int32) (M5 : zM), zEv l G Y_X12_works 1 0 82 [] [.int w3] M5 (k5 w3 M5)) ?_ (fun k5 hk5 => ?_)
    · intro w3 M5
      exact ev_iret dd_X12_works_82 rfl (Nat.le_of_ble_eq_true rfl) rfl
    · refine ev_icmp_ge 81 dd_X12_works_74 (by decide) ?_ ?_
      · refine ev_iconst (v := 0) dd_X12_works_81 (by decide) ?_
        exact hk5 _ _
      · refine ev_iconst (v := 1) dd_X12_works_77 (by decide) ?_
        refine ev_goto 82 dd_X12_works_78 (by decide) ?_
        exact hk5 _ _
  refine ev_it (fun hs4 => ?_) (fun hs4 => ?_)
  · refine ev_tabIn (off := 82) (tgt := 83) dd_X12_works_1 7 hs4 (by decide +kernel) ?_
    refine ev_iload_n dd_X12_works_83 0 rfl ?_
    refine ev_lv (lv' := [(2, .int a2)]) [1] rfl ?_
    refine ev_iload_n dd_X12_works_84 0 rfl ?_
    refine ev_lv (lv' := []) [] rfl ?_
    refine ev_jo (fun (k6 : Int32 → zM → zO) => ∀ (w4 : Int32) (M6 : zM), zEv l G Y_X12_works 1 0 93 [] [.int w4] M6 (k6 w4 M6)) ?_ (fun k6 hk6 => ?_)
    · intro w4 M6
      exact ev_iret dd_X12_works_93 rfl (Nat.le_of_ble_eq_true rfl) rfl
    · refine ev_icmp_ne 92 dd_X12_works_85 (by decide) ?_ ?_
      · refine ev_iconst (v := 0) dd_X12_works_92 (by decide) ?_
        exact hk6 _ _
      · refine ev_iconst (v := 1) dd_X12_works_88 (by decide) ?_
        refine ev_goto 93 dd_X12_works_89 (by decide) ?_
        exact hk6 _ _
  refine ev_it (fun hs5 => ?_) (fun hs5 => ?_)
  · refine ev_tabIn (off := 93) (tgt := 94) dd_X12_works_1 8 hs5 (by decide +kernel) ?_
    refine ev_iload_n dd_X12_works_94 0 rfl ?_
    refine ev_lv (lv' := [(2, .int a2)]) [1] rfl ?_
    refine ev_iload_n dd_X12_works_95 0 rfl ?_
    refine ev_lv (lv' := []) [] rfl ?_
    refine ev_iadd dd_X12_works_96 ?_
    exact ev_iret dd_X12_works_97 rfl (Nat.le_of_ble_eq_true rfl) rfl
  refine ev_it (fun hs6 => ?_) (fun hs6 => ?_)
  · refine ev_tabIn (off := 97) (tgt := 98) dd_X12_works_1 9 hs6 (by decide +kernel) ?_
    refine ev_iload_n dd_X12_works_98 0 rfl ?_
    refine ev_lv (lv' := [(2, .int a2)]) [1] rfl ?_
    refine ev_iload_n dd_X12_works_99 0 rfl ?_
    refine ev_lv (lv' := []) [] rfl ?_
    refine ev_isub dd_X12_works_100 ?_
    exact ev_iret dd_X12_works_101 rfl (Nat.le_of_ble_eq_true rfl) rfl
  refine ev_it (fun hs7 => ?_) (fun hs7 => ?_)
  · refine ev_tabIn (off := 101) (tgt := 102) dd_X12_works_1 10 hs7 (by decide +kernel) ?_
    refine ev_iload_n dd_X12_works_102 0 rfl ?_
    refine ev_lv (lv' := [(2, .int a2)]) [1] rfl ?_
    refine ev_iload_n dd_X12_works_103 0 rfl ?_
    refine ev_lv (lv' := []) [] rfl ?_
    refine ev_imul dd_X12_works_104 ?_
    exact ev_iret dd_X12_works_105 rfl (Nat.le_of_ble_eq_true rfl) rfl
  refine ev_tabOut (tgt := 106) dd_X12_works_1 (by have e0 := i32ne hs1 (n := 4) (by decide); have e1 := i32ne hs2 (n := 5) (by decide); have e2 := i32ne hs3 (n := 6) (by decide); have e3 := i32ne hs4 (n := 7) (by decide); have e4 := i32ne hs5 (n := 8) (by decide); have e5 := i32ne hs6 (n := 9) (by decide); have e6 := i32ne hs7 (n := 10) (by decide); omega) (by decide) ?_
  refine ev_iload_n dd_X12_works_106 1 rfl ?_
  refine ev_jo (fun (k7 : Int32 → zM → zO) => ∀ (w5 : Int32) (M7 : zM), zEv l G Y_X12_works 1 0 117 [] [.int w5] M7 (k7 w5 M7)) ?_ (fun k7 hk7 => ?_)
  · intro w5 M7
    exact ev_iret dd_X12_works_117 rfl (Nat.le_of_ble_eq_true rfl) rfl
  · refine ev_if_ne 114 dd_X12_works_107 (by decide) ?_ ?_
    · refine ev_iload_n dd_X12_works_114 0 rfl ?_
      refine ev_lv (lv' := [(2, .int a2)]) [1] rfl ?_
      refine ev_iload_n dd_X12_works_115 0 rfl ?_
      refine ev_lv (lv' := []) [] rfl ?_
      refine ev_idiv dd_X12_works_116 ?_
      exact hk7 _ _
    · refine ev_lv (lv' := []) [] rfl ?_
      refine ev_iconst (v := 0) dd_X12_works_110 (by decide) ?_
      refine ev_goto 117 dd_X12_works_111 (by decide) ?_
      exact hk7 _ _
/-! X12_reckons -/
theorem dd_X12_reckons_0 : decode Y_X12_reckons.2.1 0 = .ok (.iconst 0, 1) := by decide +kernel
theorem dd_X12_reckons_1 : decode Y_X12_reckons.2.1 1 = .ok (.istore_n 1, 1) := by decide +kernel
theorem dd_X12_reckons_2 : decode Y_X12_reckons.2.1 2 = .ok (.aload_n 0, 1) := by decide +kernel
theorem dd_X12_reckons_3 : decode Y_X12_reckons.2.1 3 = .ok (.getfield 13, 3) := by decide +kernel
theorem dd_X12_reckons_6 : decode Y_X12_reckons.2.1 6 = .ok (.istore_n 2, 1) := by decide +kernel
theorem dd_X12_reckons_7 : decode Y_X12_reckons.2.1 7 = .ok (.aload_n 0, 1) := by decide +kernel
theorem dd_X12_reckons_8 : decode Y_X12_reckons.2.1 8 = .ok (.getfield 41, 3) := by decide +kernel
theorem dd_X12_reckons_11 : decode Y_X12_reckons.2.1 11 = .ok (.iload_n 2, 1) := by decide +kernel
theorem dd_X12_reckons_12 : decode Y_X12_reckons.2.1 12 = .ok (.iaload, 1) := by decide +kernel
theorem dd_X12_reckons_13 : decode Y_X12_reckons.2.1 13 = .ok (.ifCond .eq 127, 3) := by decide +kernel
theorem dd_X12_reckons_16 : decode Y_X12_reckons.2.1 16 = .ok (.aload_n 0, 1) := by decide +kernel
theorem dd_X12_reckons_17 : decode Y_X12_reckons.2.1 17 = .ok (.getfield 41, 3) := by decide +kernel
theorem dd_X12_reckons_20 : decode Y_X12_reckons.2.1 20 = .ok (.iload_n 2, 1) := by decide +kernel
theorem dd_X12_reckons_21 : decode Y_X12_reckons.2.1 21 = .ok (.iaload, 1) := by decide +kernel
theorem dd_X12_reckons_22 : decode Y_X12_reckons.2.1 22 = .ok (.istore_n 3, 1) := by decide +kernel
theorem dd_X12_reckons_23 : decode Y_X12_reckons.2.1 23 = .ok (.iinc 2 1, 3) := by decide +kernel
theorem dd_X12_reckons_26 : decode Y_X12_reckons.2.1 26 = .ok (.iload_n 3, 1) := by decide +kernel
theorem dd_X12_reckons_27 : decode Y_X12_reckons.2.1 27 = .ok (.iconst 1, 1) := by decide +kernel
theorem dd_X12_reckons_28 : decode Y_X12_reckons.2.1 28 = .ok (.if_icmp .eq 8, 3) := by decide +kernel
theorem dd_X12_reckons_31 : decode Y_X12_reckons.2.1 31 = .ok (.iload_n 3, 1) := by decide +kernel
theorem dd_X12_reckons_32 : decode Y_X12_reckons.2.1 32 = .ok (.iconst 2, 1) := by decide +kernel
theorem dd_X12_reckons_33 : decode Y_X12_reckons.2.1 33 = .ok (.if_icmp .ne 43, 3) := by decide +kernel
theorem dd_X12_reckons_36 : decode Y_X12_reckons.2.1 36 = .ok (.aload_n 0, 1) := by decide +kernel
theorem dd_X12_reckons_37 : decode Y_X12_reckons.2.1 37 = .ok (.getfield 99, 3) := by decide +kernel
theorem dd_X12_reckons_40 : decode Y_X12_reckons.2.1 40 = .ok (.iload_n 1, 1) := by decide +kernel
theorem dd_X12_reckons_41 : decode Y_X12_reckons.2.1 41 = .ok (.iload_n 3, 1) := by decide +kernel
theorem dd_X12_reckons_42 : decode Y_X12_reckons.2.1 42 = .ok (.iconst 1, 1) := by decide +kernel
theorem dd_X12_reckons_43 : decode Y_X12_reckons.2.1 43 = .ok (.if_icmp .ne 12, 3) := by decide +kernel
theorem dd_X12_reckons_46 : decode Y_X12_reckons.2.1 46 = .ok (.aload_n 0, 1) := by decide +kernel
theorem dd_X12_reckons_47 : decode Y_X12_reckons.2.1 47 = .ok (.getfield 41, 3) := by decide +kernel
theorem dd_X12_reckons_50 : decode Y_X12_reckons.2.1 50 = .ok (.iload_n 2, 1) := by decide +kernel
theorem dd_X12_reckons_51 : decode Y_X12_reckons.2.1 51 = .ok (.iaload, 1) := by decide +kernel
theorem dd_X12_reckons_52 : decode Y_X12_reckons.2.1 52 = .ok (.goto 14, 3) := by decide +kernel
theorem dd_X12_reckons_55 : decode Y_X12_reckons.2.1 55 = .ok (.aload_n 0, 1) := by decide +kernel
theorem dd_X12_reckons_56 : decode Y_X12_reckons.2.1 56 = .ok (.getfield 96, 3) := by decide +kernel
theorem dd_X12_reckons_59 : decode Y_X12_reckons.2.1 59 = .ok (.aload_n 0, 1) := by decide +kernel
theorem dd_X12_reckons_60 : decode Y_X12_reckons.2.1 60 = .ok (.getfield 41, 3) := by decide +kernel
theorem dd_X12_reckons_63 : decode Y_X12_reckons.2.1 63 = .ok (.iload_n 2, 1) := by decide +kernel
theorem dd_X12_reckons_64 : decode Y_X12_reckons.2.1 64 = .ok (.iaload, 1) := by decide +kernel
theorem dd_X12_reckons_65 : decode Y_X12_reckons.2.1 65 = .ok (.iaload, 1) := by decide +kernel
theorem dd_X12_reckons_66 : decode Y_X12_reckons.2.1 66 = .ok (.iastore, 1) := by decide +kernel
theorem dd_X12_reckons_67 : decode Y_X12_reckons.2.1 67 = .ok (.iinc 2 1, 3) := by decide +kernel
theorem dd_X12_reckons_70 : decode Y_X12_reckons.2.1 70 = .ok (.iinc 1 1, 3) := by decide +kernel
theorem dd_X12_reckons_73 : decode Y_X12_reckons.2.1 73 = .ok (.goto 64, 3) := by decide +kernel
theorem dd_X12_reckons_76 : decode Y_X12_reckons.2.1 76 = .ok (.iload_n 3, 1) := by decide +kernel
theorem dd_X12_reckons_77 : decode Y_X12_reckons.2.1 77 = .ok (.iconst 3, 1) := by decide +kernel
theorem dd_X12_reckons_78 : decode Y_X12_reckons.2.1 78 = .ok (.if_icmp .ne 30, 3) := by decide +kernel
theorem dd_X12_reckons_81 : decode Y_X12_reckons.2.1 81 = .ok (.aload_n 0, 1) := by decide +kernel
theorem dd_X12_reckons_82 : decode Y_X12_reckons.2.1 82 = .ok (.getfield 99, 3) := by decide +kernel
theorem dd_X12_reckons_85 : decode Y_X12_reckons.2.1 85 = .ok (.iload_n 1, 1) := by decide +kernel
theorem dd_X12_reckons_86 : decode Y_X12_reckons.2.1 86 = .ok (.iconst 1, 1) := by decide +kernel
theorem dd_X12_reckons_87 : decode Y_X12_reckons.2.1 87 = .ok (.isub, 1) := by decide +kernel
theorem dd_X12_reckons_88 : decode Y_X12_reckons.2.1 88 = .ok (.aload_n 0, 1) := by decide +kernel
theorem dd_X12_reckons_89 : decode Y_X12_reckons.2.1 89 = .ok (.getfield 99, 3) := by decide +kernel
theorem dd_X12_reckons_92 : decode Y_X12_reckons.2.1 92 = .ok (.iload_n 1, 1) := by decide +kernel
theorem dd_X12_reckons_93 : decode Y_X12_reckons.2.1 93 = .ok (.iconst 1, 1) := by decide +kernel
theorem dd_X12_reckons_94 : decode Y_X12_reckons.2.1 94 = .ok (.isub, 1) := by decide +kernel
theorem dd_X12_reckons_95 : decode Y_X12_reckons.2.1 95 = .ok (.iaload, 1) := by decide +kernel
theorem dd_X12_reckons_96 : decode Y_X12_reckons.2.1 96 = .ok (.ifCond .ne 7, 3) := by decide +kernel
theorem dd_X12_reckons_99 : decode Y_X12_reckons.2.1 99 = .ok (.iconst 1, 1) := by decide +kernel
theorem dd_X12_reckons_100 : decode Y_X12_reckons.2.1 100 = .ok (.goto 4, 3) := by decide +kernel
theorem dd_X12_reckons_103 : decode Y_X12_reckons.2.1 103 = .ok (.iconst 0, 1) := by decide +kernel
theorem dd_X12_reckons_104 : decode Y_X12_reckons.2.1 104 = .ok (.iastore, 1) := by decide +kernel
theorem dd_X12_reckons_105 : decode Y_X12_reckons.2.1 105 = .ok (.goto 32, 3) := by decide +kernel
theorem dd_X12_reckons_108 : decode Y_X12_reckons.2.1 108 = .ok (.iinc 1 (-1), 3) := by decide +kernel
theorem dd_X12_reckons_111 : decode Y_X12_reckons.2.1 111 = .ok (.aload_n 0, 1) := by decide +kernel
theorem dd_X12_reckons_112 : decode Y_X12_reckons.2.1 112 = .ok (.getfield 99, 3) := by decide +kernel
theorem dd_X12_reckons_115 : decode Y_X12_reckons.2.1 115 = .ok (.iload_n 1, 1) := by decide +kernel
theorem dd_X12_reckons_116 : decode Y_X12_reckons.2.1 116 = .ok (.iconst 1, 1) := by decide +kernel
theorem dd_X12_reckons_117 : decode Y_X12_reckons.2.1 117 = .ok (.isub, 1) := by decide +kernel
theorem dd_X12_reckons_118 : decode Y_X12_reckons.2.1 118 = .ok (.iload_n 3, 1) := by decide +kernel
theorem dd_X12_reckons_119 : decode Y_X12_reckons.2.1 119 = .ok (.aload_n 0, 1) := by decide +kernel
theorem dd_X12_reckons_120 : decode Y_X12_reckons.2.1 120 = .ok (.getfield 99, 3) := by decide +kernel
theorem dd_X12_reckons_123 : decode Y_X12_reckons.2.1 123 = .ok (.iload_n 1, 1) := by decide +kernel
theorem dd_X12_reckons_124 : decode Y_X12_reckons.2.1 124 = .ok (.iconst 1, 1) := by decide +kernel
theorem dd_X12_reckons_125 : decode Y_X12_reckons.2.1 125 = .ok (.isub, 1) := by decide +kernel
theorem dd_X12_reckons_126 : decode Y_X12_reckons.2.1 126 = .ok (.iaload, 1) := by decide +kernel
theorem dd_X12_reckons_127 : decode Y_X12_reckons.2.1 127 = .ok (.aload_n 0, 1) := by decide +kernel
theorem dd_X12_reckons_128 : decode Y_X12_reckons.2.1 128 = .ok (.getfield 99, 3) := by decide +kernel
theorem dd_X12_reckons_131 : decode Y_X12_reckons.2.1 131 = .ok (.iload_n 1, 1) := by decide +kernel
theorem dd_X12_reckons_132 : decode Y_X12_reckons.2.1 132 = .ok (.iaload, 1) := by decide +kernel
theorem dd_X12_reckons_133 : decode Y_X12_reckons.2.1 133 = .ok (.invokestatic 360, 3) := by decide +kernel
theorem dd_X12_reckons_136 : decode Y_X12_reckons.2.1 136 = .ok (.iastore, 1) := by decide +kernel
theorem dd_X12_reckons_137 : decode Y_X12_reckons.2.1 137 = .ok (.goto (-130), 3) := by decide +kernel
theorem dd_X12_reckons_140 : decode Y_X12_reckons.2.1 140 = .ok (.aload_n 0, 1) := by decide +kernel
theorem dd_X12_reckons_141 : decode Y_X12_reckons.2.1 141 = .ok (.getfield 99, 3) := by decide +kernel
theorem dd_X12_reckons_144 : decode Y_X12_reckons.2.1 144 = .ok (.iconst 0, 1) := by decide +kernel
theorem dd_X12_reckons_145 : decode Y_X12_reckons.2.1 145 = .ok (.iaload, 1) := by decide +kernel
theorem dd_X12_reckons_146 : decode Y_X12_reckons.2.1 146 = .ok (.ireturn, 1) := by decide +kernel
def F_X12_reckons_L7 (x0 : Nat) (K140 : zM → zO) : Nat → Int32 → Int32 → zM → zO
  | 0, _, _, _ => none
  | n + 1, x1, x2, M => zck (zin x2 1900) (zit ((M (zgr x0 13) (zix x2)) = 0) (K140 M) (zck (zin x2 1900) (zlt (M (zgr x0 13) (zix x2)) (fun v2 => zjo (fun (w3 : Int32) (w4 : Int32) (M8 : zM) => F_X12_reckons_L7 x0 K140 n w3 w4 M8) (fun (k1 : Int32 → Int32 → zM → zO) => zjo (fun  (M5 : zM) => zjo (fun (w2 : Int32) (M6 : zM) => zck (zin x1 950) (zst (zup M6 (zgr x0 52) (zix x1) w2) (fun M7 => k1 (x1 + 1) ((x2 + 1) + 1) M7))) (fun (k4 : Int32 → zM → zO) => zit (v2 = 1) (zck (zin (x2 + 1) 1900) (k4 (M5 (zgr x0 13) (zix (x2 + 1))) M5)) (zck (zin (x2 + 1) 1900) (zck (zin (M5 (zgr x0 13) (zix (x2 + 1))) 7) (k4 (M5 (zgr x0 51) (zix (M5 (zgr x0 13) (zix (x2 + 1))))) M5))))) (fun (k2 : zM → zO) => zit (v2 = 1) (k2 M) (zit (v2 = 2) (k2 M) (zit (v2 = 3) (zck (zin (x1 - 1) 950) (zjo (fun (w1 : Int32) (M3 : zM) => zck (zin (x1 - 1) 950) (zst (zup M3 (zgr x0 52) (zix (x1 - 1)) w1) (fun M4 => k1 x1 (x2 + 1) M4))) (fun (k3 : Int32 → zM → zO) => zit ((M (zgr x0 52) (zix (x1 - 1))) = 0) (k3 1 M) (k3 0 M)))) (zck (zin ((x1 + (-1)) - 1) 950) (zck (zin (x1 + (-1)) 950) (zbI (F_X12_works v2 (M (zgr x0 52) (zix ((x1 + (-1)) - 1))) (M (zgr x0 52) (zix (x1 + (-1)))) M) (fun r1 M1 => zck (zin ((x1 + (-1)) - 1) 950) (zst (zup M1 (zgr x0 52) (zix ((x1 + (-1)) - 1)) r1) (fun M2 => k1 (x1 + (-1)) (x2 + 1) M2))))))))))))))
def F_X12_reckons (t : Nat) (M : zM) : zO := zlt (M t 4) (fun v1 => F_X12_reckons_L7 t (fun  (M9 : zM) => zck (zin 0 950) (zI (M9 (zgr t 52) (zix 0)) M9)) zN 0 v1 M)
set_option maxHeartbeats 1000000 in
set_option maxRecDepth 20000 in
theorem ct_X12_reckons_L7 (l : Launch) (hl : l.stackTraces = false) (G : zG) (x0 : Nat) (hx0 : zsh x0 = 12) (K140 : zM → zO) (hK140 : ∀  (M : zM), zEv l G Y_X12_reckons 2 0 140 [(0, .ref (G.2.1 + x0))] [] M (K140 M)) : ∀ (n : Nat) (x1 : Int32) (x2 : Int32) (M : zM), zEv l G Y_X12_reckons 2 0 7 [(0, .ref (G.2.1 + x0)), (1, .int x1), (2, .int x2)] [] M (F_X12_reckons_L7 x0 K140 n x1 x2 M) := by
  intro n
  induction n with
  | zero => intro x1 x2 M; exact ev_none
  | succ n ih =>
    intro x1 x2 M
    show zEv l G Y_X12_reckons 2 0 7 [(0, .ref (G.2.1 + x0)), (1, .int x1), (2, .int x2)] [] M (zck (zin x2 1900) (zit ((M (zgr x0 13) (zix x2)) = 0) (K140 M) (zck (zin x2 1900) (zlt (M (zgr x0 13) (zix x2)) (fun v2 => zjo (fun (w3 : Int32) (w4 : Int32) (M8 : zM) => F_X12_reckons_L7 x0 K140 n w3 w4 M8) (fun (k1 : Int32 → Int32 → zM → zO) => zjo (fun  (M5 : zM) => zjo (fun (w2 : Int32) (M6 : zM) => zck (zin x1 950) (zst (zup M6 (zgr x0 52) (zix x1) w2) (fun M7 => k1 (x1 + 1) ((x2 + 1) + 1) M7))) (fun (k4 : Int32 → zM → zO) => zit (v2 = 1) (zck (zin (x2 + 1) 1900) (k4 (M5 (zgr x0 13) (zix (x2 + 1))) M5)) (zck (zin (x2 + 1) 1900) (zck (zin (M5 (zgr x0 13) (zix (x2 + 1))) 7) (k4 (M5 (zgr x0 51) (zix (M5 (zgr x0 13) (zix (x2 + 1))))) M5))))) (fun (k2 : zM → zO) => zit (v2 = 1) (k2 M) (zit (v2 = 2) (k2 M) (zit (v2 = 3) (zck (zin (x1 - 1) 950) (zjo (fun (w1 : Int32) (M3 : zM) => zck (zin (x1 - 1) 950) (zst (zup M3 (zgr x0 52) (zix (x1 - 1)) w1) (fun M4 => k1 x1 (x2 + 1) M4))) (fun (k3 : Int32 → zM → zO) => zit ((M (zgr x0 52) (zix (x1 - 1))) = 0) (k3 1 M) (k3 0 M)))) (zck (zin ((x1 + (-1)) - 1) 950) (zck (zin (x1 + (-1)) 950) (zbI (F_X12_works v2 (M (zgr x0 52) (zix ((x1 + (-1)) - 1))) (M (zgr x0 52) (zix (x1 + (-1)))) M) (fun r1 M1 => zck (zin ((x1 + (-1)) - 1) 950) (zst (zup M1 (zgr x0 52) (zix ((x1 + (-1)) - 1)) r1) (fun M2 => k1 (x1 + (-1)) (x2 + 1) M2)))))))))))))))
    refine ev_aload_n dd_X12_reckons_7 0 rfl ?_
    refine ev_getR gf_RX12_41 dd_X12_reckons_8 hx0 (by decide) ?_
    refine ev_iload_n dd_X12_reckons_11 2 rfl ?_
    refine ev_iald dd_X12_reckons_12 ((zg_12_13 hx0).1) ((zg_12_13 hx0).2) ?_
    refine ev_if_eq 140 dd_X12_reckons_13 (by decide) ?_ ?_
    · refine ev_lv (lv' := [(0, .ref (G.2.1 + x0))]) [0] rfl ?_
      exact hK140 _
    · refine ev_aload_n dd_X12_reckons_16 0 rfl ?_
      refine ev_getR gf_RX12_41 dd_X12_reckons_17 hx0 (by decide) ?_
      refine ev_iload_n dd_X12_reckons_20 2 rfl ?_
      refine ev_iald dd_X12_reckons_21 ((zg_12_13 hx0).1) ((zg_12_13 hx0).2) ?_
      refine ev_topi (fun v2 => ?_)
      refine ev_istore_n (i := 3) (lv' := [(0, .ref (G.2.1 + x0)), (1, .int x1), (2, .int x2), (3, .int v2)]) [1, 2, 3, 0] dd_X12_reckons_22 rfl (by decide) rfl ?_
      refine ev_iinc (j := 2) (v := 1) (lv' := [(0, .ref (G.2.1 + x0)), (1, .int x1), (2, .int (x2 + 1)), (3, .int v2)]) [1, 2, 0, 3] dd_X12_reckons_23 rfl (by decide) (by decide) rfl ?_
      refine ev_iload_n dd_X12_reckons_26 3 rfl ?_
      refine ev_iconst (v := 1) dd_X12_reckons_27 (by decide) ?_
      refine ev_jo (fun (k1 : Int32 → Int32 → zM → zO) => ∀ (w3 : Int32) (w4 : Int32) (M8 : zM), zEv l G Y_X12_reckons 2 0 137 [(0, .ref (G.2.1 + x0)), (1, .int w3), (2, .int w4)] [] M8 (k1 w3 w4 M8)) ?_ (fun k1 hk1 => ?_)
      · intro w3 w4 M8
        refine ev_goto 7 dd_X12_reckons_137 (by decide) ?_
        exact ih _ _ _
      · refine ev_jo (fun (k2 : zM → zO) => ∀  (M5 : zM), zEv l G Y_X12_reckons 2 0 36 [(0, .ref (G.2.1 + x0)), (1, .int x1), (2, .int (x2 + 1)), (3, .int v2)] [] M5 (k2 M5)) ?_ (fun k2 hk2 => ?_)
        · intro M5
          refine ev_aload_n dd_X12_reckons_36 0 rfl ?_
          refine ev_getR gf_RX12_99 dd_X12_reckons_37 hx0 (by decide) ?_
          refine ev_iload_n dd_X12_reckons_40 1 rfl ?_
          refine ev_iload_n dd_X12_reckons_41 3 rfl ?_
          refine ev_lv (lv' := [(0, .ref (G.2.1 + x0)), (1, .int x1), (2, .int (x2 + 1))]) [0, 1, 2] rfl ?_
          refine ev_iconst (v := 1) dd_X12_reckons_42 (by decide) ?_
          refine ev_jo (fun (k4 : Int32 → zM → zO) => ∀ (w2 : Int32) (M6 : zM), zEv l G Y_X12_reckons 2 0 66 [(0, .ref (G.2.1 + x0)), (1, .int x1), (2, .int (x2 + 1))] [.int w2, .int x1, .ref (G.2.1 + (zgr x0 52))] M6 (k4 w2 M6)) ?_ (fun k4 hk4 => ?_)
          · intro w2 M6
            refine ev_iast dd_X12_reckons_66 ((zg_12_52 hx0).1) ((zg_12_52 hx0).2) ?_
            refine ev_st (fun M7 => ?_)
            refine ev_iinc (j := 2) (v := 1) (lv' := [(0, .ref (G.2.1 + x0)), (1, .int x1), (2, .int ((x2 + 1) + 1))]) [1, 2, 0] dd_X12_reckons_67 rfl (by decide) (by decide) rfl ?_
            refine ev_iinc (j := 1) (v := 1) (lv' := [(0, .ref (G.2.1 + x0)), (1, .int (x1 + 1)), (2, .int ((x2 + 1) + 1))]) [1, 0, 2] dd_X12_reckons_70 rfl (by decide) (by decide) rfl ?_
            refine ev_goto 137 dd_X12_reckons_73 (by decide) ?_
            exact hk1 _ _ _
          · refine ev_icmp_ne 55 dd_X12_reckons_43 (by decide) ?_ ?_
            · refine ev_aload_n dd_X12_reckons_55 0 rfl ?_
              refine ev_getR gf_RX12_96 dd_X12_reckons_56 hx0 (by decide) ?_
              refine ev_aload_n dd_X12_reckons_59 0 rfl ?_
              refine ev_getR gf_RX12_41 dd_X12_reckons_60 hx0 (by decide) ?_
              refine ev_iload_n dd_X12_reckons_63 2 rfl ?_
              refine ev_iald dd_X12_reckons_64 ((zg_12_13 hx0).1) ((zg_12_13 hx0).2) ?_
              refine ev_iald dd_X12_reckons_65 ((zg_12_51 hx0).1) ((zg_12_51 hx0).2) ?_
              exact hk4 _ _
            · refine ev_aload_n dd_X12_reckons_46 0 rfl ?_
              refine ev_getR gf_RX12_41 dd_X12_reckons_47 hx0 (by decide) ?_
              refine ev_iload_n dd_X12_reckons_50 2 rfl ?_
              refine ev_iald dd_X12_reckons_51 ((zg_12_13 hx0).1) ((zg_12_13 hx0).2) ?_
              refine ev_goto 66 dd_X12_reckons_52 (by decide) ?_
              exact hk4 _ _
        · refine ev_icmp_eq 36 dd_X12_reckons_28 (by decide) ?_ ?_
          · exact hk2 _
          · refine ev_iload_n dd_X12_reckons_31 3 rfl ?_
            refine ev_iconst (v := 2) dd_X12_reckons_32 (by decide) ?_
            refine ev_icmp_ne 76 dd_X12_reckons_33 (by decide) ?_ ?_
            · refine ev_iload_n dd_X12_reckons_76 3 rfl ?_
              refine ev_iconst (v := 3) dd_X12_reckons_77 (by decide) ?_
              refine ev_icmp_ne 108 dd_X12_reckons_78 (by decide) ?_ ?_
              · refine ev_iinc (j := 1) (v := (-1)) (lv' := [(0, .ref (G.2.1 + x0)), (1, .int (x1 + (-1))), (2, .int (x2 + 1)), (3, .int v2)]) [1, 0, 2, 3] dd_X12_reckons_108 rfl (by decide) (by decide) rfl ?_
                refine ev_aload_n dd_X12_reckons_111 0 rfl ?_
                refine ev_getR gf_RX12_99 dd_X12_reckons_112 hx0 (by decide) ?_
                refine ev_iload_n dd_X12_reckons_115 1 rfl ?_
                refine ev_iconst (v := 1) dd_X12_reckons_116 (by decide) ?_
                refine ev_isub dd_X12_reckons_117 ?_
                refine ev_iload_n dd_X12_reckons_118 3 rfl ?_
                refine ev_lv (lv' := [(0, .ref (G.2.1 + x0)), (1, .int (x1 + (-1))), (2, .int (x2 + 1))]) [0, 1, 2] rfl ?_
                refine ev_aload_n dd_X12_reckons_119 0 rfl ?_
                refine ev_getR gf_RX12_99 dd_X12_reckons_120 hx0 (by decide) ?_
                refine ev_iload_n dd_X12_reckons_123 1 rfl ?_
                refine ev_iconst (v := 1) dd_X12_reckons_124 (by decide) ?_
                refine ev_isub dd_X12_reckons_125 ?_
                refine ev_iald dd_X12_reckons_126 ((zg_12_52 hx0).1) ((zg_12_52 hx0).2) ?_
                refine ev_aload_n dd_X12_reckons_127 0 rfl ?_
                refine ev_getR gf_RX12_99 dd_X12_reckons_128 hx0 (by decide) ?_
                refine ev_iload_n dd_X12_reckons_131 1 rfl ?_
                refine ev_iald dd_X12_reckons_132 ((zg_12_52 hx0).1) ((zg_12_52 hx0).2) ?_
                refine ev_callSI (As := [.int v2, .int (M (zgr x0 52) (zix ((x1 + (-1)) - 1))), .int (M (zgr x0 52) (zix (x1 + (-1))))]) cl_RX12_360 (ct_X12_works l hl G v2 (M (zgr x0 52) (zix ((x1 + (-1)) - 1))) (M (zgr x0 52) (zix (x1 + (-1)))) M) dd_X12_reckons_133 (by decide) (Nat.le_of_ble_eq_true rfl) (Nat.le_of_ble_eq_true rfl) rfl rfl (fun r1 M1 => ?_)
                refine ev_iast dd_X12_reckons_136 ((zg_12_52 hx0).1) ((zg_12_52 hx0).2) ?_
                refine ev_st (fun M2 => ?_)
                exact hk1 _ _ _
              · refine ev_lv (lv' := [(0, .ref (G.2.1 + x0)), (1, .int x1), (2, .int (x2 + 1))]) [0, 1, 2] rfl ?_
                refine ev_aload_n dd_X12_reckons_81 0 rfl ?_
                refine ev_getR gf_RX12_99 dd_X12_reckons_82 hx0 (by decide) ?_
                refine ev_iload_n dd_X12_reckons_85 1 rfl ?_
                refine ev_iconst (v := 1) dd_X12_reckons_86 (by decide) ?_
                refine ev_isub dd_X12_reckons_87 ?_
                refine ev_aload_n dd_X12_reckons_88 0 rfl ?_
                refine ev_getR gf_RX12_99 dd_X12_reckons_89 hx0 (by decide) ?_
                refine ev_iload_n dd_X12_reckons_92 1 rfl ?_
                refine ev_iconst (v := 1) dd_X12_reckons_93 (by decide) ?_
                refine ev_isub dd_X12_reckons_94 ?_
                refine ev_iald dd_X12_reckons_95 ((zg_12_52 hx0).1) ((zg_12_52 hx0).2) ?_
                refine ev_jo (fun (k3 : Int32 → zM → zO) => ∀ (w1 : Int32) (M3 : zM), zEv l G Y_X12_reckons 2 0 104 [(0, .ref (G.2.1 + x0)), (1, .int x1), (2, .int (x2 + 1))] [.int w1, .int (x1 - 1), .ref (G.2.1 + (zgr x0 52))] M3 (k3 w1 M3)) ?_ (fun k3 hk3 => ?_)
                · intro w1 M3
                  refine ev_iast dd_X12_reckons_104 ((zg_12_52 hx0).1) ((zg_12_52 hx0).2) ?_
                  refine ev_st (fun M4 => ?_)
                  refine ev_goto 137 dd_X12_reckons_105 (by decide) ?_
                  exact hk1 _ _ _
                · refine ev_if_ne 103 dd_X12_reckons_96 (by decide) ?_ ?_
                  · refine ev_iconst (v := 0) dd_X12_reckons_103 (by decide) ?_
                    exact hk3 _ _
                  · refine ev_iconst (v := 1) dd_X12_reckons_99 (by decide) ?_
                    refine ev_goto 104 dd_X12_reckons_100 (by decide) ?_
                    exact hk3 _ _
            · exact hk2 _
set_option maxHeartbeats 1000000 in
set_option maxRecDepth 20000 in
theorem ct_X12_reckons (l : Launch) (hl : l.stackTraces = false) (G : zG) (t : Nat) (ht : zsh t = 12) (M : zM) : zMt l G Y_X12_reckons 2 [.ref (G.2.1 + t)] M (F_X12_reckons t M) := by
  refine zMt_of (by decide +kernel) (Nat.le_of_ble_eq_true rfl) ?_
  show zEv l G Y_X12_reckons 2 0 0 [(0, .ref (G.2.1 + t))] [] M (zlt (M t 4) (fun v1 => F_X12_reckons_L7 t (fun  (M9 : zM) => zck (zin 0 950) (zI (M9 (zgr t 52) (zix 0)) M9)) zN 0 v1 M))
  refine ev_iconst (v := 0) dd_X12_reckons_0 (by decide) ?_
  refine ev_istore_n (i := 1) (lv' := [(0, .ref (G.2.1 + t)), (1, .int 0)]) [1, 0] dd_X12_reckons_1 rfl (by decide) rfl ?_
  refine ev_aload_n dd_X12_reckons_2 0 rfl ?_
  refine ev_getI gf_RX12_13 dd_X12_reckons_3 ht (by decide) ?_
  refine ev_topi (fun v1 => ?_)
  refine ev_istore_n (i := 2) (lv' := [(0, .ref (G.2.1 + t)), (1, .int 0), (2, .int v1)]) [1, 2, 0] dd_X12_reckons_6 rfl (by decide) rfl ?_
  refine ct_X12_reckons_L7 l hl G t ht _ (fun M9 => ?_) zN _ _ _
  refine ev_aload_n dd_X12_reckons_140 0 rfl ?_
  refine ev_lv (lv' := []) [] rfl ?_
  refine ev_getR gf_RX12_99 dd_X12_reckons_141 ht (by decide) ?_
  refine ev_iconst (v := 0) dd_X12_reckons_144 (by decide) ?_
  refine ev_iald dd_X12_reckons_145 ((zg_12_52 ht).1) ((zg_12_52 ht).2) ?_
  exact ev_iret dd_X12_reckons_146 rfl (Nat.le_of_ble_eq_true rfl) rfl
/-! X12_holds -/
theorem dd_X12_holds_0 : decode Y_X12_holds.2.1 0 = .ok (.aload_n 0, 1) := by decide +kernel
theorem dd_X12_holds_1 : decode Y_X12_holds.2.1 1 = .ok (.getfield 13, 3) := by decide +kernel
theorem dd_X12_holds_4 : decode Y_X12_holds.2.1 4 = .ok (.iconst (-1), 1) := by decide +kernel
theorem dd_X12_holds_5 : decode Y_X12_holds.2.1 5 = .ok (.if_icmp .ne 5, 3) := by decide +kernel
theorem dd_X12_holds_8 : decode Y_X12_holds.2.1 8 = .ok (.iconst 1, 1) := by decide +kernel
theorem dd_X12_holds_9 : decode Y_X12_holds.2.1 9 = .ok (.ireturn, 1) := by decide +kernel
theorem dd_X12_holds_10 : decode Y_X12_holds.2.1 10 = .ok (.aload_n 1, 1) := by decide +kernel
theorem dd_X12_holds_11 : decode Y_X12_holds.2.1 11 = .ok (.iload_n 2, 1) := by decide +kernel
theorem dd_X12_holds_12 : decode Y_X12_holds.2.1 12 = .ok (.iaload, 1) := by decide +kernel
theorem dd_X12_holds_13 : decode Y_X12_holds.2.1 13 = .ok (.istore 4, 2) := by decide +kernel
theorem dd_X12_holds_15 : decode Y_X12_holds.2.1 15 = .ok (.aload_n 1, 1) := by decide +kernel
theorem dd_X12_holds_16 : decode Y_X12_holds.2.1 16 = .ok (.iload_n 3, 1) := by decide +kernel
theorem dd_X12_holds_17 : decode Y_X12_holds.2.1 17 = .ok (.iaload, 1) := by decide +kernel
theorem dd_X12_holds_18 : decode Y_X12_holds.2.1 18 = .ok (.istore 5, 2) := by decide +kernel
theorem dd_X12_holds_20 : decode Y_X12_holds.2.1 20 = .ok (.aload_n 0, 1) := by decide +kernel
theorem dd_X12_holds_21 : decode Y_X12_holds.2.1 21 = .ok (.getfield 96, 3) := by decide +kernel
theorem dd_X12_holds_24 : decode Y_X12_holds.2.1 24 = .ok (.iconst 0, 1) := by decide +kernel
theorem dd_X12_holds_25 : decode Y_X12_holds.2.1 25 = .ok (.aload_n 0, 1) := by decide +kernel
theorem dd_X12_holds_26 : decode Y_X12_holds.2.1 26 = .ok (.getfield 20, 3) := by decide +kernel
theorem dd_X12_holds_29 : decode Y_X12_holds.2.1 29 = .ok (.iload 4, 2) := by decide +kernel
theorem dd_X12_holds_31 : decode Y_X12_holds.2.1 31 = .ok (.iaload, 1) := by decide +kernel
theorem dd_X12_holds_32 : decode Y_X12_holds.2.1 32 = .ok (.iastore, 1) := by decide +kernel
theorem dd_X12_holds_33 : decode Y_X12_holds.2.1 33 = .ok (.aload_n 0, 1) := by decide +kernel
theorem dd_X12_holds_34 : decode Y_X12_holds.2.1 34 = .ok (.getfield 96, 3) := by decide +kernel
theorem dd_X12_holds_37 : decode Y_X12_holds.2.1 37 = .ok (.iconst 1, 1) := by decide +kernel
theorem dd_X12_holds_38 : decode Y_X12_holds.2.1 38 = .ok (.aload_n 0, 1) := by decide +kernel
theorem dd_X12_holds_39 : decode Y_X12_holds.2.1 39 = .ok (.getfield 20, 3) := by decide +kernel
theorem dd_X12_holds_42 : decode Y_X12_holds.2.1 42 = .ok (.iload 5, 2) := by decide +kernel
theorem dd_X12_holds_44 : decode Y_X12_holds.2.1 44 = .ok (.iaload, 1) := by decide +kernel
theorem dd_X12_holds_45 : decode Y_X12_holds.2.1 45 = .ok (.iastore, 1) := by decide +kernel
theorem dd_X12_holds_46 : decode Y_X12_holds.2.1 46 = .ok (.aload_n 0, 1) := by decide +kernel
theorem dd_X12_holds_47 : decode Y_X12_holds.2.1 47 = .ok (.getfield 96, 3) := by decide +kernel
theorem dd_X12_holds_50 : decode Y_X12_holds.2.1 50 = .ok (.iconst 2, 1) := by decide +kernel
theorem dd_X12_holds_51 : decode Y_X12_holds.2.1 51 = .ok (.aload_n 0, 1) := by decide +kernel
theorem dd_X12_holds_52 : decode Y_X12_holds.2.1 52 = .ok (.iload 4, 2) := by decide +kernel
theorem dd_X12_holds_54 : decode Y_X12_holds.2.1 54 = .ok (.iload 5, 2) := by decide +kernel
theorem dd_X12_holds_56 : decode Y_X12_holds.2.1 56 = .ok (.invokevirtual 367, 3) := by decide +kernel
theorem dd_X12_holds_59 : decode Y_X12_holds.2.1 59 = .ok (.iastore, 1) := by decide +kernel
theorem dd_X12_holds_60 : decode Y_X12_holds.2.1 60 = .ok (.aload_n 0, 1) := by decide +kernel
theorem dd_X12_holds_61 : decode Y_X12_holds.2.1 61 = .ok (.getfield 96, 3) := by decide +kernel
theorem dd_X12_holds_64 : decode Y_X12_holds.2.1 64 = .ok (.iconst 3, 1) := by decide +kernel
theorem dd_X12_holds_65 : decode Y_X12_holds.2.1 65 = .ok (.aload_n 0, 1) := by decide +kernel
theorem dd_X12_holds_66 : decode Y_X12_holds.2.1 66 = .ok (.getfield 29, 3) := by decide +kernel
theorem dd_X12_holds_69 : decode Y_X12_holds.2.1 69 = .ok (.iload 4, 2) := by decide +kernel
theorem dd_X12_holds_71 : decode Y_X12_holds.2.1 71 = .ok (.iaload, 1) := by decide +kernel
theorem dd_X12_holds_72 : decode Y_X12_holds.2.1 72 = .ok (.iastore, 1) := by decide +kernel
theorem dd_X12_holds_73 : decode Y_X12_holds.2.1 73 = .ok (.aload_n 0, 1) := by decide +kernel
theorem dd_X12_holds_74 : decode Y_X12_holds.2.1 74 = .ok (.getfield 96, 3) := by decide +kernel
theorem dd_X12_holds_77 : decode Y_X12_holds.2.1 77 = .ok (.iconst 4, 1) := by decide +kernel
theorem dd_X12_holds_78 : decode Y_X12_holds.2.1 78 = .ok (.aload_n 0, 1) := by decide +kernel
theorem dd_X12_holds_79 : decode Y_X12_holds.2.1 79 = .ok (.getfield 29, 3) := by decide +kernel
theorem dd_X12_holds_82 : decode Y_X12_holds.2.1 82 = .ok (.iload 5, 2) := by decide +kernel
theorem dd_X12_holds_84 : decode Y_X12_holds.2.1 84 = .ok (.iaload, 1) := by decide +kernel
theorem dd_X12_holds_85 : decode Y_X12_holds.2.1 85 = .ok (.iastore, 1) := by decide +kernel
theorem dd_X12_holds_86 : decode Y_X12_holds.2.1 86 = .ok (.aload_n 0, 1) := by decide +kernel
theorem dd_X12_holds_87 : decode Y_X12_holds.2.1 87 = .ok (.getfield 96, 3) := by decide +kernel
theorem dd_X12_holds_90 : decode Y_X12_holds.2.1 90 = .ok (.iconst 5, 1) := by decide +kernel
theorem dd_X12_holds_91 : decode Y_X12_holds.2.1 91 = .ok (.aload_n 1, 1) := by decide +kernel
theorem dd_X12_holds_92 : decode Y_X12_holds.2.1 92 = .ok (.bipush 8, 2) := by decide +kernel
theorem dd_X12_holds_94 : decode Y_X12_holds.2.1 94 = .ok (.bipush 8, 2) := by decide +kernel
theorem dd_X12_holds_96 : decode Y_X12_holds.2.1 96 = .ok (.iload_n 2, 1) := by decide +kernel
theorem dd_X12_holds_97 : decode Y_X12_holds.2.1 97 = .ok (.imul, 1) := by decide +kernel
theorem dd_X12_holds_98 : decode Y_X12_holds.2.1 98 = .ok (.iadd, 1) := by decide +kernel
theorem dd_X12_holds_99 : decode Y_X12_holds.2.1 99 = .ok (.iload_n 3, 1) := by decide +kernel
theorem dd_X12_holds_100 : decode Y_X12_holds.2.1 100 = .ok (.iadd, 1) := by decide +kernel
theorem dd_X12_holds_101 : decode Y_X12_holds.2.1 101 = .ok (.iaload, 1) := by decide +kernel
theorem dd_X12_holds_102 : decode Y_X12_holds.2.1 102 = .ok (.iastore, 1) := by decide +kernel
theorem dd_X12_holds_103 : decode Y_X12_holds.2.1 103 = .ok (.aload_n 0, 1) := by decide +kernel
theorem dd_X12_holds_104 : decode Y_X12_holds.2.1 104 = .ok (.getfield 96, 3) := by decide +kernel
theorem dd_X12_holds_107 : decode Y_X12_holds.2.1 107 = .ok (.bipush 6, 2) := by decide +kernel
theorem dd_X12_holds_109 : decode Y_X12_holds.2.1 109 = .ok (.aload_n 1, 1) := by decide +kernel
theorem dd_X12_holds_110 : decode Y_X12_holds.2.1 110 = .ok (.bipush 72, 2) := by decide +kernel
theorem dd_X12_holds_112 : decode Y_X12_holds.2.1 112 = .ok (.iaload, 1) := by decide +kernel
theorem dd_X12_holds_113 : decode Y_X12_holds.2.1 113 = .ok (.iastore, 1) := by decide +kernel
theorem dd_X12_holds_114 : decode Y_X12_holds.2.1 114 = .ok (.aload_n 0, 1) := by decide +kernel
theorem dd_X12_holds_115 : decode Y_X12_holds.2.1 115 = .ok (.invokevirtual 370, 3) := by decide +kernel
theorem dd_X12_holds_118 : decode Y_X12_holds.2.1 118 = .ok (.ifCond .eq 7, 3) := by decide +kernel
theorem dd_X12_holds_121 : decode Y_X12_holds.2.1 121 = .ok (.iconst 1, 1) := by decide +kernel
theorem dd_X12_holds_122 : decode Y_X12_holds.2.1 122 = .ok (.goto 4, 3) := by decide +kernel
theorem dd_X12_holds_125 : decode Y_X12_holds.2.1 125 = .ok (.iconst 0, 1) := by decide +kernel
theorem dd_X12_holds_126 : decode Y_X12_holds.2.1 126 = .ok (.ireturn, 1) := by decide +kernel
def F_X12_holds (t : Nat) (a1 : Nat) (a2 : Int32) (a3 : Int32) (M : zM) : zO := zit ((M t 4) = (-1)) (zck (zbo 1) (zI 1 M)) (zck (zin a2 (zal a1)) (zlt (M a1 (zix a2)) (fun v1 => zck (zin a3 (zal a1)) (zlt (M a1 (zix a3)) (fun v2 => zck (zin v1 8) (zck (zin 0 7) (zst (zup M (zgr t 51) (zix 0) (M (zgr t 6) (zix v1))) (fun M1 => zck (zin v2 8) (zck (zin 1 7) (zst (zup M1 (zgr t 51) (zix 1) (M1 (zgr t 6) (zix v2))) (fun M2 => zbI (F_X12_apart t v1 v2 M2) (fun r1 M3 => zck (zin 2 7) (zst (zup M3 (zgr t 51) (zix 2) r1) (fun M4 => zck (zin v1 8) (zck (zin 3 7) (zst (zup M4 (zgr t 51) (zix 3) (M4 (zgr t 9) (zix v1))) (fun M5 => zck (zin v2 8) (zck (zin 4 7) (zst (zup M5 (zgr t 51) (zix 4) (M5 (zgr t 9) (zix v2))) (fun M6 => zck (zin ((8 + (8 * a2)) + a3) (zal a1)) (zck (zin 5 7) (zst (zup M6 (zgr t 51) (zix 5) (M6 a1 (zix ((8 + (8 * a2)) + a3)))) (fun M7 => zck (zin 72 (zal a1)) (zck (zin 6 7) (zst (zup M7 (zgr t 51) (zix 6) (M7 a1 (zix 72))) (fun M8 => zbI (F_X12_reckons t M8) (fun r2 M9 => zjo (fun (w1 : Int32) (M10 : zM) => zck (zbo w1) (zI w1 M10)) (fun (k1 : Int32 → zM → zO) => zit (r2 = 0) (k1 0 M9) (k1 1 M9)))))))))))))))))))))))))))))
set_option maxHeartbeats 1000000 in
set_option maxRecDepth 20000 in
theorem ct_X12_holds (l : Launch) (hl : l.stackTraces = false) (G : zG) (t : Nat) (ht : zsh t = 12) (a1 : Nat) (ha1 : zsh a1 = 20) (a2 : Int32) (a3 : Int32) (M : zM) : zMt l G Y_X12_holds 3 [.ref (G.2.1 + t), .ref (G.2.1 + a1), .int a2, .int a3] M (F_X12_holds t a1 a2 a3 M) := by
  refine zMt_of (by decide +kernel) (Nat.le_of_ble_eq_true rfl) ?_
  show zEv l G Y_X12_holds 3 0 0 [(0, .ref (G.2.1 + t)), (1, .ref (G.2.1 + a1)), (2, .int a2), (3, .int a3)] [] M (zit ((M t 4) = (-1)) (zck (zbo 1) (zI 1 M)) (zck (zin a2 (zal a1)) (zlt (M a1 (zix a2)) (fun v1 => zck (zin a3 (zal a1)) (zlt (M a1 (zix a3)) (fun v2 => zck (zin v1 8) (zck (zin 0 7) (zst (zup M (zgr t 51) (zix 0) (M (zgr t 6) (zix v1))) (fun M1 => zck (zin v2 8) (zck (zin 1 7) (zst (zup M1 (zgr t 51) (zix 1) (M1 (zgr t 6) (zix v2))) (fun M2 => zbI (F_X12_apart t v1 v2 M2) (fun r1 M3 => zck (zin 2 7) (zst (zup M3 (zgr t 51) (zix 2) r1) (fun M4 => zck (zin v1 8) (zck (zin 3 7) (zst (zup M4 (zgr t 51) (zix 3) (M4 (zgr t 9) (zix v1))) (fun M5 => zck (zin v2 8) (zck (zin 4 7) (zst (zup M5 (zgr t 51) (zix 4) (M5 (zgr t 9) (zix v2))) (fun M6 => zck (zin ((8 + (8 * a2)) + a3) (zal a1)) (zck (zin 5 7) (zst (zup M6 (zgr t 51) (zix 5) (M6 a1 (zix ((8 + (8 * a2)) + a3)))) (fun M7 => zck (zin 72 (zal a1)) (zck (zin 6 7) (zst (zup M7 (zgr t 51) (zix 6) (M7 a1 (zix 72))) (fun M8 => zbI (F_X12_reckons t M8) (fun r2 M9 => zjo (fun (w1 : Int32) (M10 : zM) => zck (zbo w1) (zI w1 M10)) (fun (k1 : Int32 → zM → zO) => zit (r2 = 0) (k1 0 M9) (k1 1 M9))))))))))))))))))))))))))))))
  refine ev_aload_n dd_X12_holds_0 0 rfl ?_
  refine ev_getI gf_RX12_13 dd_X12_holds_1 ht (by decide) ?_
  refine ev_iconst (v := (-1)) dd_X12_holds_4 (by decide) ?_
  refine ev_icmp_ne 10 dd_X12_holds_5 (by decide) ?_ ?_
  · refine ev_aload_n dd_X12_holds_10 1 rfl ?_
    refine ev_iload_n dd_X12_holds_11 2 rfl ?_
    refine ev_iald dd_X12_holds_12 ha1 rfl ?_
    refine ev_topi (fun v1 => ?_)
    refine ev_istore (i := 4) (lv' := [(0, .ref (G.2.1 + t)), (1, .ref (G.2.1 + a1)), (2, .int a2), (3, .int a3), (4, .int v1)]) [1, 2, 3, 4, 0] dd_X12_holds_13 (by decide) rfl ?_
    refine ev_aload_n dd_X12_holds_15 1 rfl ?_
    refine ev_iload_n dd_X12_holds_16 3 rfl ?_
    refine ev_iald dd_X12_holds_17 ha1 rfl ?_
    refine ev_topi (fun v2 => ?_)
    refine ev_istore (i := 5) (lv' := [(0, .ref (G.2.1 + t)), (1, .ref (G.2.1 + a1)), (2, .int a2), (3, .int a3), (4, .int v1), (5, .int v2)]) [1, 2, 3, 4, 5, 0] dd_X12_holds_18 (by decide) rfl ?_
    refine ev_aload_n dd_X12_holds_20 0 rfl ?_
    refine ev_getR gf_RX12_96 dd_X12_holds_21 ht (by decide) ?_
    refine ev_iconst (v := 0) dd_X12_holds_24 (by decide) ?_
    refine ev_aload_n dd_X12_holds_25 0 rfl ?_
    refine ev_getR gf_RX12_20 dd_X12_holds_26 ht (by decide) ?_
    refine ev_iload dd_X12_holds_29 4 rfl ?_
    refine ev_iald dd_X12_holds_31 ((zg_12_6 ht).1) ((zg_12_6 ht).2) ?_
    refine ev_iast dd_X12_holds_32 ((zg_12_51 ht).1) ((zg_12_51 ht).2) ?_
    refine ev_st (fun M1 => ?_)
    refine ev_aload_n dd_X12_holds_33 0 rfl ?_
    refine ev_getR gf_RX12_96 dd_X12_holds_34 ht (by decide) ?_
    refine ev_iconst (v := 1) dd_X12_holds_37 (by decide) ?_
    refine ev_aload_n dd_X12_holds_38 0 rfl ?_
    refine ev_getR gf_RX12_20 dd_X12_holds_39 ht (by decide) ?_
    refine ev_iload dd_X12_holds_42 5 rfl ?_
    refine ev_iald dd_X12_holds_44 ((zg_12_6 ht).1) ((zg_12_6 ht).2) ?_
    refine ev_iast dd_X12_holds_45 ((zg_12_51 ht).1) ((zg_12_51 ht).2) ?_
    refine ev_st (fun M2 => ?_)
    refine ev_aload_n dd_X12_holds_46 0 rfl ?_
    refine ev_getR gf_RX12_96 dd_X12_holds_47 ht (by decide) ?_
    refine ev_iconst (v := 2) dd_X12_holds_50 (by decide) ?_
    refine ev_aload_n dd_X12_holds_51 0 rfl ?_
    refine ev_iload dd_X12_holds_52 4 rfl ?_
    refine ev_iload dd_X12_holds_54 5 rfl ?_
    refine ev_callVI (As := [.int v1, .int v2]) cl_RX12_367 (ct_X12_apart l hl G t ht v1 v2 M2) dd_X12_holds_56 ht (by decide) (Nat.le_of_ble_eq_true rfl) (Nat.le_of_ble_eq_true rfl) rfl rfl (fun r1 M3 => ?_)
    refine ev_iast dd_X12_holds_59 ((zg_12_51 ht).1) ((zg_12_51 ht).2) ?_
    refine ev_st (fun M4 => ?_)
    refine ev_aload_n dd_X12_holds_60 0 rfl ?_
    refine ev_getR gf_RX12_96 dd_X12_holds_61 ht (by decide) ?_
    refine ev_iconst (v := 3) dd_X12_holds_64 (by decide) ?_
    refine ev_aload_n dd_X12_holds_65 0 rfl ?_
    refine ev_getR gf_RX12_29 dd_X12_holds_66 ht (by decide) ?_
    refine ev_iload dd_X12_holds_69 4 rfl ?_
    refine ev_lv (lv' := [(0, .ref (G.2.1 + t)), (1, .ref (G.2.1 + a1)), (2, .int a2), (3, .int a3), (5, .int v2)]) [0, 1, 2, 3, 5] rfl ?_
    refine ev_iald dd_X12_holds_71 ((zg_12_9 ht).1) ((zg_12_9 ht).2) ?_
    refine ev_iast dd_X12_holds_72 ((zg_12_51 ht).1) ((zg_12_51 ht).2) ?_
    refine ev_st (fun M5 => ?_)
    refine ev_aload_n dd_X12_holds_73 0 rfl ?_
    refine ev_getR gf_RX12_96 dd_X12_holds_74 ht (by decide) ?_
    refine ev_iconst (v := 4) dd_X12_holds_77 (by decide) ?_
    refine ev_aload_n dd_X12_holds_78 0 rfl ?_
    refine ev_getR gf_RX12_29 dd_X12_holds_79 ht (by decide) ?_
    refine ev_iload dd_X12_holds_82 4 rfl ?_
    refine ev_lv (lv' := [(0, .ref (G.2.1 + t)), (1, .ref (G.2.1 + a1)), (2, .int a2), (3, .int a3)]) [0, 1, 2, 3] rfl ?_
    refine ev_iald dd_X12_holds_84 ((zg_12_9 ht).1) ((zg_12_9 ht).2) ?_
    refine ev_iast dd_X12_holds_85 ((zg_12_51 ht).1) ((zg_12_51 ht).2) ?_
    refine ev_st (fun M6 => ?_)
    refine ev_aload_n dd_X12_holds_86 0 rfl ?_
    refine ev_getR gf_RX12_96 dd_X12_holds_87 ht (by decide) ?_
    refine ev_iconst (v := 5) dd_X12_holds_90 (by decide) ?_
    refine ev_aload_n dd_X12_holds_91 1 rfl ?_
    refine ev_bipush (v := 8) dd_X12_holds_92 (by decide) ?_
    refine ev_bipush (v := 8) dd_X12_holds_94 (by decide) ?_
    refine ev_iload_n dd_X12_holds_96 2 rfl ?_
    refine ev_lv (lv' := [(0, .ref (G.2.1 + t)), (1, .ref (G.2.1 + a1)), (3, .int a3)]) [0, 1, 3] rfl ?_
    refine ev_imul dd_X12_holds_97 ?_
    refine ev_iadd dd_X12_holds_98 ?_
    refine ev_iload_n dd_X12_holds_99 2 rfl ?_
    refine ev_lv (lv' := [(0, .ref (G.2.1 + t)), (1, .ref (G.2.1 + a1))]) [0, 1] rfl ?_
    refine ev_iadd dd_X12_holds_100 ?_
    refine ev_iald dd_X12_holds_101 ha1 rfl ?_
    refine ev_iast dd_X12_holds_102 ((zg_12_51 ht).1) ((zg_12_51 ht).2) ?_
    refine ev_st (fun M7 => ?_)
    refine ev_aload_n dd_X12_holds_103 0 rfl ?_
    refine ev_getR gf_RX12_96 dd_X12_holds_104 ht (by decide) ?_
    refine ev_bipush (v := 6) dd_X12_holds_107 (by decide) ?_
    refine ev_aload_n dd_X12_holds_109 1 rfl ?_
    refine ev_lv (lv' := [(0, .ref (G.2.1 + t))]) [0] rfl ?_
    refine ev_bipush (v := 72) dd_X12_holds_110 (by decide) ?_
    refine ev_iald dd_X12_holds_112 ha1 rfl ?_
    refine ev_iast dd_X12_holds_113 ((zg_12_51 ht).1) ((zg_12_51 ht).2) ?_
    refine ev_st (fun M8 => ?_)
    refine ev_aload_n dd_X12_holds_114 0 rfl ?_
    refine ev_lv (lv' := []) [] rfl ?_
    refine ev_callVI (As := []) cl_RX12_370 (ct_X12_reckons l hl G t ht M8) dd_X12_holds_115 ht (by decide) (Nat.le_of_ble_eq_true rfl) (Nat.le_of_ble_eq_true rfl) rfl rfl (fun r2 M9 => ?_)
    refine ev_jo (fun (k1 : Int32 → zM → zO) => ∀ (w1 : Int32) (M10 : zM), zEv l G Y_X12_holds 3 0 126 [] [.int w1] M10 (k1 w1 M10)) ?_ (fun k1 hk1 => ?_)
    · intro w1 M10
      exact ev_zret dd_X12_holds_126 rfl (Nat.le_of_ble_eq_true rfl) rfl
    · refine ev_if_eq 125 dd_X12_holds_118 (by decide) ?_ ?_
      · refine ev_iconst (v := 0) dd_X12_holds_125 (by decide) ?_
        exact hk1 _ _
      · refine ev_iconst (v := 1) dd_X12_holds_121 (by decide) ?_
        refine ev_goto 126 dd_X12_holds_122 (by decide) ?_
        exact hk1 _ _
  · refine ev_lv (lv' := []) [] rfl ?_
    refine ev_iconst (v := 1) dd_X12_holds_8 (by decide) ?_
    exact ev_zret dd_X12_holds_9 rfl (Nat.le_of_ble_eq_true rfl) rfl
/-! X12_maySwap -/
theorem dd_X12_maySwap_0 : decode Y_X12_maySwap.2.1 0 = .ok (.aload_n 0, 1) := by decide +kernel
theorem dd_X12_maySwap_1 : decode Y_X12_maySwap.2.1 1 = .ok (.aload_n 1, 1) := by decide +kernel
theorem dd_X12_maySwap_2 : decode Y_X12_maySwap.2.1 2 = .ok (.iload_n 2, 1) := by decide +kernel
theorem dd_X12_maySwap_3 : decode Y_X12_maySwap.2.1 3 = .ok (.iload_n 3, 1) := by decide +kernel
theorem dd_X12_maySwap_4 : decode Y_X12_maySwap.2.1 4 = .ok (.invokevirtual 373, 3) := by decide +kernel
theorem dd_X12_maySwap_7 : decode Y_X12_maySwap.2.1 7 = .ok (.ifCond .eq 17, 3) := by decide +kernel
theorem dd_X12_maySwap_10 : decode Y_X12_maySwap.2.1 10 = .ok (.aload_n 0, 1) := by decide +kernel
theorem dd_X12_maySwap_11 : decode Y_X12_maySwap.2.1 11 = .ok (.aload_n 1, 1) := by decide +kernel
theorem dd_X12_maySwap_12 : decode Y_X12_maySwap.2.1 12 = .ok (.iload_n 3, 1) := by decide +kernel
theorem dd_X12_maySwap_13 : decode Y_X12_maySwap.2.1 13 = .ok (.iload_n 2, 1) := by decide +kernel
theorem dd_X12_maySwap_14 : decode Y_X12_maySwap.2.1 14 = .ok (.invokevirtual 373, 3) := by decide +kernel
theorem dd_X12_maySwap_17 : decode Y_X12_maySwap.2.1 17 = .ok (.ifCond .eq 7, 3) := by decide +kernel
theorem dd_X12_maySwap_20 : decode Y_X12_maySwap.2.1 20 = .ok (.iconst 1, 1) := by decide +kernel
theorem dd_X12_maySwap_21 : decode Y_X12_maySwap.2.1 21 = .ok (.goto 4, 3) := by decide +kernel
theorem dd_X12_maySwap_24 : decode Y_X12_maySwap.2.1 24 = .ok (.iconst 0, 1) := by decide +kernel
theorem dd_X12_maySwap_25 : decode Y_X12_maySwap.2.1 25 = .ok (.ireturn, 1) := by decide +kernel
def F_X12_maySwap (t : Nat) (a1 : Nat) (a2 : Int32) (a3 : Int32) (M : zM) : zO := zbI (F_X12_holds t a1 a2 a3 M) (fun r1 M1 => zjo (fun (w1 : Int32) (M4 : zM) => zck (zbo w1) (zI w1 M4)) (fun (k1 : Int32 → zM → zO) => zjo (fun  (M3 : zM) => k1 0 M3) (fun (k2 : zM → zO) => zit (r1 = 0) (k2 M1) (zbI (F_X12_holds t a1 a3 a2 M1) (fun r2 M2 => zit (r2 = 0) (k2 M2) (k1 1 M2))))))
set_option maxHeartbeats 1000000 in
set_option maxRecDepth 20000 in
theorem ct_X12_maySwap (l : Launch) (hl : l.stackTraces = false) (G : zG) (t : Nat) (ht : zsh t = 12) (a1 : Nat) (ha1 : zsh a1 = 20) (a2 : Int32) (a3 : Int32) (M : zM) : zMt l G Y_X12_maySwap 4 [.ref (G.2.1 + t), .ref (G.2.1 + a1), .int a2, .int a3] M (F_X12_maySwap t a1 a2 a3 M) := by
  refine zMt_of (by decide +kernel) (Nat.le_of_ble_eq_true rfl) ?_
  show zEv l G Y_X12_maySwap 4 0 0 [(0, .ref (G.2.1 + t)), (1, .ref (G.2.1 + a1)), (2, .int a2), (3, .int a3)] [] M (zbI (F_X12_holds t a1 a2 a3 M) (fun r1 M1 => zjo (fun (w1 : Int32) (M4 : zM) => zck (zbo w1) (zI w1 M4)) (fun (k1 : Int32 → zM → zO) => zjo (fun  (M3 : zM) => k1 0 M3) (fun (k2 : zM → zO) => zit (r1 = 0) (k2 M1) (zbI (F_X12_holds t a1 a3 a2 M1) (fun r2 M2 => zit (r2 = 0) (k2 M2) (k1 1 M2)))))))
  refine ev_aload_n dd_X12_maySwap_0 0 rfl ?_
  refine ev_aload_n dd_X12_maySwap_1 1 rfl ?_
  refine ev_iload_n dd_X12_maySwap_2 2 rfl ?_
  refine ev_iload_n dd_X12_maySwap_3 3 rfl ?_
  refine ev_callVI (As := [.ref (G.2.1 + a1), .int a2, .int a3]) cl_RX12_373 (ct_X12_holds l hl G t ht a1 ha1 a2 a3 M) dd_X12_maySwap_4 ht (by decide) (Nat.le_of_ble_eq_true rfl) (Nat.le_of_ble_eq_true rfl) rfl rfl (fun r1 M1 => ?_)
  refine ev_jo (fun (k1 : Int32 → zM → zO) => ∀ (w1 : Int32) (M4 : zM), zEv l G Y_X12_maySwap 4 0 25 [] [.int w1] M4 (k1 w1 M4)) ?_ (fun k1 hk1 => ?_)
  · intro w1 M4
    exact ev_zret dd_X12_maySwap_25 rfl (Nat.le_of_ble_eq_true rfl) rfl
  · refine ev_jo (fun (k2 : zM → zO) => ∀  (M3 : zM), zEv l G Y_X12_maySwap 4 0 24 [] [] M3 (k2 M3)) ?_ (fun k2 hk2 => ?_)
    · intro M3
      refine ev_iconst (v := 0) dd_X12_maySwap_24 (by decide) ?_
      exact hk1 _ _
    · refine ev_if_eq 24 dd_X12_maySwap_7 (by decide) ?_ ?_
      · refine ev_lv (lv' := []) [] rfl ?_
        exact hk2 _
      · refine ev_aload_n dd_X12_maySwap_10 0 rfl ?_
        refine ev_lv (lv' := [(1, .ref (G.2.1 + a1)), (2, .int a2), (3, .int a3)]) [1, 2, 3] rfl ?_
        refine ev_aload_n dd_X12_maySwap_11 0 rfl ?_
        refine ev_lv (lv' := [(2, .int a2), (3, .int a3)]) [1, 2] rfl ?_
        refine ev_iload_n dd_X12_maySwap_12 1 rfl ?_
        refine ev_lv (lv' := [(2, .int a2)]) [0] rfl ?_
        refine ev_iload_n dd_X12_maySwap_13 0 rfl ?_
        refine ev_lv (lv' := []) [] rfl ?_
        refine ev_callVI (As := [.ref (G.2.1 + a1), .int a3, .int a2]) cl_RX12_373 (ct_X12_holds l hl G t ht a1 ha1 a3 a2 M1) dd_X12_maySwap_14 ht (by decide) (Nat.le_of_ble_eq_true rfl) (Nat.le_of_ble_eq_true rfl) rfl rfl (fun r2 M2 => ?_)
        refine ev_if_eq 24 dd_X12_maySwap_17 (by decide) ?_ ?_
        · exact hk2 _
        · refine ev_iconst (v := 1) dd_X12_maySwap_20 (by decide) ?_
          refine ev_goto 25 dd_X12_maySwap_21 (by decide) ?_
          exact hk1 _ _
/-! X12_changes -/
theorem dd_X12_changes_0 : decode Y_X12_changes.2.1 0 = .ok (.aload_n 1, 1) := by decide +kernel
theorem dd_X12_changes_1 : decode Y_X12_changes.2.1 1 = .ok (.iload_n 2, 1) := by decide +kernel
theorem dd_X12_changes_2 : decode Y_X12_changes.2.1 2 = .ok (.iaload, 1) := by decide +kernel
theorem dd_X12_changes_3 : decode Y_X12_changes.2.1 3 = .ok (.istore 4, 2) := by decide +kernel
theorem dd_X12_changes_5 : decode Y_X12_changes.2.1 5 = .ok (.aload_n 1, 1) := by decide +kernel
theorem dd_X12_changes_6 : decode Y_X12_changes.2.1 6 = .ok (.iload_n 2, 1) := by decide +kernel
theorem dd_X12_changes_7 : decode Y_X12_changes.2.1 7 = .ok (.aload_n 1, 1) := by decide +kernel
theorem dd_X12_changes_8 : decode Y_X12_changes.2.1 8 = .ok (.iload_n 3, 1) := by decide +kernel
theorem dd_X12_changes_9 : decode Y_X12_changes.2.1 9 = .ok (.iaload, 1) := by decide +kernel
theorem dd_X12_changes_10 : decode Y_X12_changes.2.1 10 = .ok (.iastore, 1) := by decide +kernel
theorem dd_X12_changes_11 : decode Y_X12_changes.2.1 11 = .ok (.aload_n 1, 1) := by decide +kernel
theorem dd_X12_changes_12 : decode Y_X12_changes.2.1 12 = .ok (.iload_n 3, 1) := by decide +kernel
theorem dd_X12_changes_13 : decode Y_X12_changes.2.1 13 = .ok (.iload 4, 2) := by decide +kernel
theorem dd_X12_changes_15 : decode Y_X12_changes.2.1 15 = .ok (.iastore, 1) := by decide +kernel
theorem dd_X12_changes_16 : decode Y_X12_changes.2.1 16 = .ok (.return_, 1) := by decide +kernel
def F_X12_changes (t : Nat) (a1 : Nat) (a2 : Int32) (a3 : Int32) (M : zM) : zO := zck (zin a2 (zal a1)) (zlt (M a1 (zix a2)) (fun v1 => zck (zin a3 (zal a1)) (zck (zin a2 (zal a1)) (zst (zup M a1 (zix a2) (M a1 (zix a3))) (fun M1 => zck (zin a3 (zal a1)) (zst (zup M1 a1 (zix a3) v1) (fun M2 => zV M2)))))))
set_option maxHeartbeats 1000000 in
set_option maxRecDepth 20000 in
theorem ct_X12_changes (l : Launch) (hl : l.stackTraces = false) (G : zG) (t : Nat) (ht : zsh t = 12) (a1 : Nat) (ha1 : zsh a1 = 20) (a2 : Int32) (a3 : Int32) (M : zM) : zMt l G Y_X12_changes 1 [.ref (G.2.1 + t), .ref (G.2.1 + a1), .int a2, .int a3] M (F_X12_changes t a1 a2 a3 M) := by
  refine zMt_of (by decide +kernel) (Nat.le_of_ble_eq_true rfl) ?_
  show zEv l G Y_X12_changes 1 0 0 [(0, .ref (G.2.1 + t)), (1, .ref (G.2.1 + a1)), (2, .int a2), (3, .int a3)] [] M (zck (zin a2 (zal a1)) (zlt (M a1 (zix a2)) (fun v1 => zck (zin a3 (zal a1)) (zck (zin a2 (zal a1)) (zst (zup M a1 (zix a2) (M a1 (zix a3))) (fun M1 => zck (zin a3 (zal a1)) (zst (zup M1 a1 (zix a3) v1) (fun M2 => zV M2))))))))
  refine ev_lv (lv' := [(1, .ref (G.2.1 + a1)), (2, .int a2), (3, .int a3)]) [1, 2, 3] rfl ?_
  refine ev_aload_n dd_X12_changes_0 0 rfl ?_
  refine ev_iload_n dd_X12_changes_1 1 rfl ?_
  refine ev_iald dd_X12_changes_2 ha1 rfl ?_
  refine ev_topi (fun v1 => ?_)
  refine ev_istore (i := 4) (lv' := [(1, .ref (G.2.1 + a1)), (2, .int a2), (3, .int a3), (4, .int v1)]) [1, 2, 3, 0] dd_X12_changes_3 (by decide) rfl ?_
  refine ev_aload_n dd_X12_changes_5 0 rfl ?_
  refine ev_iload_n dd_X12_changes_6 1 rfl ?_
  refine ev_lv (lv' := [(1, .ref (G.2.1 + a1)), (3, .int a3), (4, .int v1)]) [0, 2, 3] rfl ?_
  refine ev_aload_n dd_X12_changes_7 0 rfl ?_
  refine ev_iload_n dd_X12_changes_8 1 rfl ?_
  refine ev_iald dd_X12_changes_9 ha1 rfl ?_
  refine ev_iast dd_X12_changes_10 ha1 rfl ?_
  refine ev_st (fun M1 => ?_)
  refine ev_aload_n dd_X12_changes_11 0 rfl ?_
  refine ev_lv (lv' := [(3, .int a3), (4, .int v1)]) [1, 2] rfl ?_
  refine ev_iload_n dd_X12_changes_12 0 rfl ?_
  refine ev_lv (lv' := [(4, .int v1)]) [1] rfl ?_
  refine ev_iload dd_X12_changes_13 0 rfl ?_
  refine ev_lv (lv' := []) [] rfl ?_
  refine ev_iast dd_X12_changes_15 ha1 rfl ?_
  refine ev_st (fun M2 => ?_)
  exact ev_vret dd_X12_changes_16 rfl (Nat.le_of_ble_eq_true rfl) rfl
/-! X12_swapsIn -/
theorem dd_X12_swapsIn_0 : decode Y_X12_swapsIn.2.1 0 = .ok (.aload_n 0, 1) := by decide +kernel
theorem dd_X12_swapsIn_1 : decode Y_X12_swapsIn.2.1 1 = .ok (.getfield 20, 3) := by decide +kernel
theorem dd_X12_swapsIn_4 : decode Y_X12_swapsIn.2.1 4 = .ok (.aload_n 1, 1) := by decide +kernel
theorem dd_X12_swapsIn_5 : decode Y_X12_swapsIn.2.1 5 = .ok (.iload_n 3, 1) := by decide +kernel
theorem dd_X12_swapsIn_6 : decode Y_X12_swapsIn.2.1 6 = .ok (.iaload, 1) := by decide +kernel
theorem dd_X12_swapsIn_7 : decode Y_X12_swapsIn.2.1 7 = .ok (.iaload, 1) := by decide +kernel
theorem dd_X12_swapsIn_8 : decode Y_X12_swapsIn.2.1 8 = .ok (.aload_n 0, 1) := by decide +kernel
theorem dd_X12_swapsIn_9 : decode Y_X12_swapsIn.2.1 9 = .ok (.getfield 20, 3) := by decide +kernel
theorem dd_X12_swapsIn_12 : decode Y_X12_swapsIn.2.1 12 = .ok (.aload_n 1, 1) := by decide +kernel
theorem dd_X12_swapsIn_13 : decode Y_X12_swapsIn.2.1 13 = .ok (.iload_n 2, 1) := by decide +kernel
theorem dd_X12_swapsIn_14 : decode Y_X12_swapsIn.2.1 14 = .ok (.iaload, 1) := by decide +kernel
theorem dd_X12_swapsIn_15 : decode Y_X12_swapsIn.2.1 15 = .ok (.iaload, 1) := by decide +kernel
theorem dd_X12_swapsIn_16 : decode Y_X12_swapsIn.2.1 16 = .ok (.isub, 1) := by decide +kernel
theorem dd_X12_swapsIn_17 : decode Y_X12_swapsIn.2.1 17 = .ok (.istore 4, 2) := by decide +kernel
theorem dd_X12_swapsIn_19 : decode Y_X12_swapsIn.2.1 19 = .ok (.aload_n 1, 1) := by decide +kernel
theorem dd_X12_swapsIn_20 : decode Y_X12_swapsIn.2.1 20 = .ok (.bipush 8, 2) := by decide +kernel
theorem dd_X12_swapsIn_22 : decode Y_X12_swapsIn.2.1 22 = .ok (.bipush 8, 2) := by decide +kernel
theorem dd_X12_swapsIn_24 : decode Y_X12_swapsIn.2.1 24 = .ok (.iload_n 2, 1) := by decide +kernel
theorem dd_X12_swapsIn_25 : decode Y_X12_swapsIn.2.1 25 = .ok (.imul, 1) := by decide +kernel
theorem dd_X12_swapsIn_26 : decode Y_X12_swapsIn.2.1 26 = .ok (.iadd, 1) := by decide +kernel
theorem dd_X12_swapsIn_27 : decode Y_X12_swapsIn.2.1 27 = .ok (.iload_n 3, 1) := by decide +kernel
theorem dd_X12_swapsIn_28 : decode Y_X12_swapsIn.2.1 28 = .ok (.iadd, 1) := by decide +kernel
theorem dd_X12_swapsIn_29 : decode Y_X12_swapsIn.2.1 29 = .ok (.dup2, 1) := by decide +kernel
theorem dd_X12_swapsIn_30 : decode Y_X12_swapsIn.2.1 30 = .ok (.iaload, 1) := by decide +kernel
theorem dd_X12_swapsIn_31 : decode Y_X12_swapsIn.2.1 31 = .ok (.iload 4, 2) := by decide +kernel
theorem dd_X12_swapsIn_33 : decode Y_X12_swapsIn.2.1 33 = .ok (.iadd, 1) := by decide +kernel
theorem dd_X12_swapsIn_34 : decode Y_X12_swapsIn.2.1 34 = .ok (.iastore, 1) := by decide +kernel
theorem dd_X12_swapsIn_35 : decode Y_X12_swapsIn.2.1 35 = .ok (.aload_n 1, 1) := by decide +kernel
theorem dd_X12_swapsIn_36 : decode Y_X12_swapsIn.2.1 36 = .ok (.bipush 8, 2) := by decide +kernel
theorem dd_X12_swapsIn_38 : decode Y_X12_swapsIn.2.1 38 = .ok (.bipush 8, 2) := by decide +kernel
theorem dd_X12_swapsIn_40 : decode Y_X12_swapsIn.2.1 40 = .ok (.iload_n 3, 1) := by decide +kernel
theorem dd_X12_swapsIn_41 : decode Y_X12_swapsIn.2.1 41 = .ok (.imul, 1) := by decide +kernel
theorem dd_X12_swapsIn_42 : decode Y_X12_swapsIn.2.1 42 = .ok (.iadd, 1) := by decide +kernel
theorem dd_X12_swapsIn_43 : decode Y_X12_swapsIn.2.1 43 = .ok (.iload_n 2, 1) := by decide +kernel
theorem dd_X12_swapsIn_44 : decode Y_X12_swapsIn.2.1 44 = .ok (.iadd, 1) := by decide +kernel
theorem dd_X12_swapsIn_45 : decode Y_X12_swapsIn.2.1 45 = .ok (.dup2, 1) := by decide +kernel
theorem dd_X12_swapsIn_46 : decode Y_X12_swapsIn.2.1 46 = .ok (.iaload, 1) := by decide +kernel
theorem dd_X12_swapsIn_47 : decode Y_X12_swapsIn.2.1 47 = .ok (.iload 4, 2) := by decide +kernel
theorem dd_X12_swapsIn_49 : decode Y_X12_swapsIn.2.1 49 = .ok (.isub, 1) := by decide +kernel
theorem dd_X12_swapsIn_50 : decode Y_X12_swapsIn.2.1 50 = .ok (.iastore, 1) := by decide +kernel
theorem dd_X12_swapsIn_51 : decode Y_X12_swapsIn.2.1 51 = .ok (.aload_n 0, 1) := by decide +kernel
theorem dd_X12_swapsIn_52 : decode Y_X12_swapsIn.2.1 52 = .ok (.aload_n 1, 1) := by decide +kernel
theorem dd_X12_swapsIn_53 : decode Y_X12_swapsIn.2.1 53 = .ok (.iload_n 2, 1) := by decide +kernel
theorem dd_X12_swapsIn_54 : decode Y_X12_swapsIn.2.1 54 = .ok (.iload_n 3, 1) := by decide +kernel
theorem dd_X12_swapsIn_55 : decode Y_X12_swapsIn.2.1 55 = .ok (.invokevirtual 377, 3) := by decide +kernel
theorem dd_X12_swapsIn_58 : decode Y_X12_swapsIn.2.1 58 = .ok (.return_, 1) := by decide +kernel
def F_X12_swapsIn (t : Nat) (a1 : Nat) (a2 : Int32) (a3 : Int32) (M : zM) : zO := zck (zin a3 (zal a1)) (zck (zin (M a1 (zix a3)) 8) (zck (zin a2 (zal a1)) (zck (zin (M a1 (zix a2)) 8) (zlt ((M (zgr t 6) (zix (M a1 (zix a3)))) - (M (zgr t 6) (zix (M a1 (zix a2))))) (fun v1 => zck (zin ((8 + (8 * a2)) + a3) (zal a1)) (zck (zin ((8 + (8 * a2)) + a3) (zal a1)) (zst (zup M a1 (zix ((8 + (8 * a2)) + a3)) ((M a1 (zix ((8 + (8 * a2)) + a3))) + v1)) (fun M1 => zck (zin ((8 + (8 * a3)) + a2) (zal a1)) (zck (zin ((8 + (8 * a3)) + a2) (zal a1)) (zst (zup M1 a1 (zix ((8 + (8 * a3)) + a2)) ((M1 a1 (zix ((8 + (8 * a3)) + a2))) - v1)) (fun M2 => zbV (F_X12_changes t a1 a2 a3 M2) (fun M3 => zV M3))))))))))))
set_option maxHeartbeats 1000000 in
set_option maxRecDepth 20000 in
theorem ct_X12_swapsIn (l : Launch) (hl : l.stackTraces = false) (G : zG) (t : Nat) (ht : zsh t = 12) (a1 : Nat) (ha1 : zsh a1 = 20) (a2 : Int32) (a3 : Int32) (M : zM) : zMt l G Y_X12_swapsIn 2 [.ref (G.2.1 + t), .ref (G.2.1 + a1), .int a2, .int a3] M (F_X12_swapsIn t a1 a2 a3 M) := by
  refine zMt_of (by decide +kernel) (Nat.le_of_ble_eq_true rfl) ?_
  show zEv l G Y_X12_swapsIn 2 0 0 [(0, .ref (G.2.1 + t)), (1, .ref (G.2.1 + a1)), (2, .int a2), (3, .int a3)] [] M (zck (zin a3 (zal a1)) (zck (zin (M a1 (zix a3)) 8) (zck (zin a2 (zal a1)) (zck (zin (M a1 (zix a2)) 8) (zlt ((M (zgr t 6) (zix (M a1 (zix a3)))) - (M (zgr t 6) (zix (M a1 (zix a2))))) (fun v1 => zck (zin ((8 + (8 * a2)) + a3) (zal a1)) (zck (zin ((8 + (8 * a2)) + a3) (zal a1)) (zst (zup M a1 (zix ((8 + (8 * a2)) + a3)) ((M a1 (zix ((8 + (8 * a2)) + a3))) + v1)) (fun M1 => zck (zin ((8 + (8 * a3)) + a2) (zal a1)) (zck (zin ((8 + (8 * a3)) + a2) (zal a1)) (zst (zup M1 a1 (zix ((8 + (8 * a3)) + a2)) ((M1 a1 (zix ((8 + (8 * a3)) + a2))) - v1)) (fun M2 => zbV (F_X12_changes t a1 a2 a3 M2) (fun M3 => zV M3)))))))))))))
  refine ev_aload_n dd_X12_swapsIn_0 0 rfl ?_
  refine ev_getR gf_RX12_20 dd_X12_swapsIn_1 ht (by decide) ?_
  refine ev_aload_n dd_X12_swapsIn_4 1 rfl ?_
  refine ev_iload_n dd_X12_swapsIn_5 3 rfl ?_
  refine ev_iald dd_X12_swapsIn_6 ha1 rfl ?_
  refine ev_iald dd_X12_swapsIn_7 ((zg_12_6 ht).1) ((zg_12_6 ht).2) ?_
  refine ev_aload_n dd_X12_swapsIn_8 0 rfl ?_
  refine ev_getR gf_RX12_20 dd_X12_swapsIn_9 ht (by decide) ?_
  refine ev_aload_n dd_X12_swapsIn_12 1 rfl ?_
  refine ev_iload_n dd_X12_swapsIn_13 2 rfl ?_
  refine ev_iald dd_X12_swapsIn_14 ha1 rfl ?_
  refine ev_iald dd_X12_swapsIn_15 ((zg_12_6 ht).1) ((zg_12_6 ht).2) ?_
  refine ev_isub dd_X12_swapsIn_16 ?_
  refine ev_topi (fun v1 => ?_)
  refine ev_istore (i := 4) (lv' := [(0, .ref (G.2.1 + t)), (1, .ref (G.2.1 + a1)), (2, .int a2), (3, .int a3), (4, .int v1)]) [1, 2, 3, 4, 0] dd_X12_swapsIn_17 (by decide) rfl ?_
  refine ev_aload_n dd_X12_swapsIn_19 1 rfl ?_
  refine ev_bipush (v := 8) dd_X12_swapsIn_20 (by decide) ?_
  refine ev_bipush (v := 8) dd_X12_swapsIn_22 (by decide) ?_
  refine ev_iload_n dd_X12_swapsIn_24 2 rfl ?_
  refine ev_imul dd_X12_swapsIn_25 ?_
  refine ev_iadd dd_X12_swapsIn_26 ?_
  refine ev_iload_n dd_X12_swapsIn_27 3 rfl ?_
  refine ev_iadd dd_X12_swapsIn_28 ?_
  refine ev_dup2 dd_X12_swapsIn_29 rfl rfl ?_
  refine ev_iald dd_X12_swapsIn_30 ha1 rfl ?_
  refine ev_iload dd_X12_swapsIn_31 4 rfl ?_
  refine ev_iadd dd_X12_swapsIn_33 ?_
  refine ev_iast dd_X12_swapsIn_34 ha1 rfl ?_
  refine ev_st (fun M1 => ?_)
  refine ev_aload_n dd_X12_swapsIn_35 1 rfl ?_
  refine ev_bipush (v := 8) dd_X12_swapsIn_36 (by decide) ?_
  refine ev_bipush (v := 8) dd_X12_swapsIn_38 (by decide) ?_
  refine ev_iload_n dd_X12_swapsIn_40 3 rfl ?_
  refine ev_imul dd_X12_swapsIn_41 ?_
  refine ev_iadd dd_X12_swapsIn_42 ?_
  refine ev_iload_n dd_X12_swapsIn_43 2 rfl ?_
  refine ev_iadd dd_X12_swapsIn_44 ?_
  refine ev_dup2 dd_X12_swapsIn_45 rfl rfl ?_
  refine ev_iald dd_X12_swapsIn_46 ha1 rfl ?_
  refine ev_iload dd_X12_swapsIn_47 4 rfl ?_
  refine ev_lv (lv' := [(0, .ref (G.2.1 + t)), (1, .ref (G.2.1 + a1)), (2, .int a2), (3, .int a3)]) [0, 1, 2, 3] rfl ?_
  refine ev_isub dd_X12_swapsIn_49 ?_
  refine ev_iast dd_X12_swapsIn_50 ha1 rfl ?_
  refine ev_st (fun M2 => ?_)
  refine ev_aload_n dd_X12_swapsIn_51 0 rfl ?_
  refine ev_lv (lv' := [(1, .ref (G.2.1 + a1)), (2, .int a2), (3, .int a3)]) [1, 2, 3] rfl ?_
  refine ev_aload_n dd_X12_swapsIn_52 0 rfl ?_
  refine ev_lv (lv' := [(2, .int a2), (3, .int a3)]) [1, 2] rfl ?_
  refine ev_iload_n dd_X12_swapsIn_53 0 rfl ?_
  refine ev_lv (lv' := [(3, .int a3)]) [1] rfl ?_
  refine ev_iload_n dd_X12_swapsIn_54 0 rfl ?_
  refine ev_lv (lv' := []) [] rfl ?_
  refine ev_callVV (As := [.ref (G.2.1 + a1), .int a2, .int a3]) cl_RX12_377 (ct_X12_changes l hl G t ht a1 ha1 a2 a3 M2) dd_X12_swapsIn_55 ht (by decide) (Nat.le_of_ble_eq_true rfl) (Nat.le_of_ble_eq_true rfl) rfl rfl (fun M3 => ?_)
  exact ev_vret dd_X12_swapsIn_58 rfl (Nat.le_of_ble_eq_true rfl) rfl
/-! X12_within -/
theorem dd_X12_within_0 : decode Y_X12_within.2.1 0 = .ok (.iload_n 0, 1) := by decide +kernel
theorem dd_X12_within_1 : decode Y_X12_within.2.1 1 = .ok (.iload_n 1, 1) := by decide +kernel
theorem dd_X12_within_2 : decode Y_X12_within.2.1 2 = .ok (.if_icmp .lt 12, 3) := by decide +kernel
theorem dd_X12_within_5 : decode Y_X12_within.2.1 5 = .ok (.iload_n 0, 1) := by decide +kernel
theorem dd_X12_within_6 : decode Y_X12_within.2.1 6 = .ok (.iload_n 2, 1) := by decide +kernel
theorem dd_X12_within_7 : decode Y_X12_within.2.1 7 = .ok (.if_icmp .gt 7, 3) := by decide +kernel
theorem dd_X12_within_10 : decode Y_X12_within.2.1 10 = .ok (.iconst 1, 1) := by decide +kernel
theorem dd_X12_within_11 : decode Y_X12_within.2.1 11 = .ok (.goto 4, 3) := by decide +kernel
theorem dd_X12_within_14 : decode Y_X12_within.2.1 14 = .ok (.iconst 0, 1) := by decide +kernel
theorem dd_X12_within_15 : decode Y_X12_within.2.1 15 = .ok (.ireturn, 1) := by decide +kernel
def F_X12_within (a0 : Int32) (a1 : Int32) (a2 : Int32) (M : zM) : zO := zjo (fun (w1 : Int32) (M2 : zM) => zck (zbo w1) (zI w1 M2)) (fun (k1 : Int32 → zM → zO) => zjo (fun  (M1 : zM) => k1 0 M1) (fun (k2 : zM → zO) => zit (a0 < a1) (k2 M) (zit (a2 < a0) (k2 M) (k1 1 M))))
set_option maxHeartbeats 1000000 in
set_option maxRecDepth 20000 in
theorem ct_X12_within (l : Launch) (hl : l.stackTraces = false) (G : zG) (a0 : Int32) (a1 : Int32) (a2 : Int32) (M : zM) : zMt l G Y_X12_within 1 [.int a0, .int a1, .int a2] M (F_X12_within a0 a1 a2 M) := by
  refine zMt_of (by decide +kernel) (Nat.le_of_ble_eq_true rfl) ?_
  show zEv l G Y_X12_within 1 0 0 [(0, .int a0), (1, .int a1), (2, .int a2)] [] M (zjo (fun (w1 : Int32) (M2 : zM) => zck (zbo w1) (zI w1 M2)) (fun (k1 : Int32 → zM → zO) => zjo (fun  (M1 : zM) => k1 0 M1) (fun (k2 : zM → zO) => zit (a0 < a1) (k2 M) (zit (a2 < a0) (k2 M) (k1 1 M)))))
  refine ev_iload_n dd_X12_within_0 0 rfl ?_
  refine ev_iload_n dd_X12_within_1 1 rfl ?_
  refine ev_lv (lv' := [(0, .int a0), (2, .int a2)]) [0, 2] rfl ?_
  refine ev_jo (fun (k1 : Int32 → zM → zO) => ∀ (w1 : Int32) (M2 : zM), zEv l G Y_X12_within 1 0 15 [] [.int w1] M2 (k1 w1 M2)) ?_ (fun k1 hk1 => ?_)
  · intro w1 M2
    exact ev_zret dd_X12_within_15 rfl (Nat.le_of_ble_eq_true rfl) rfl
  · refine ev_jo (fun (k2 : zM → zO) => ∀  (M1 : zM), zEv l G Y_X12_within 1 0 14 [] [] M1 (k2 M1)) ?_ (fun k2 hk2 => ?_)
    · intro M1
      refine ev_iconst (v := 0) dd_X12_within_14 (by decide) ?_
      exact hk1 _ _
    · refine ev_icmp_lt 14 dd_X12_within_2 (by decide) ?_ ?_
      · refine ev_lv (lv' := []) [] rfl ?_
        exact hk2 _
      · refine ev_iload_n dd_X12_within_5 0 rfl ?_
        refine ev_lv (lv' := [(2, .int a2)]) [1] rfl ?_
        refine ev_iload_n dd_X12_within_6 0 rfl ?_
        refine ev_lv (lv' := []) [] rfl ?_
        refine ev_icmp_gt 14 dd_X12_within_7 (by decide) ?_ ?_
        · exact hk2 _
        · refine ev_iconst (v := 1) dd_X12_within_10 (by decide) ?_
          refine ev_goto 15 dd_X12_within_11 (by decide) ?_
          exact hk1 _ _
/-! X12_yearOf -/
theorem dd_X12_yearOf_0 : decode Y_X12_yearOf.2.1 0 = .ok (.iconst 0, 1) := by decide +kernel
theorem dd_X12_yearOf_1 : decode Y_X12_yearOf.2.1 1 = .ok (.istore_n 2, 1) := by decide +kernel
theorem dd_X12_yearOf_2 : decode Y_X12_yearOf.2.1 2 = .ok (.iconst 0, 1) := by decide +kernel
theorem dd_X12_yearOf_3 : decode Y_X12_yearOf.2.1 3 = .ok (.istore_n 3, 1) := by decide +kernel
theorem dd_X12_yearOf_4 : decode Y_X12_yearOf.2.1 4 = .ok (.iload_n 3, 1) := by decide +kernel
theorem dd_X12_yearOf_5 : decode Y_X12_yearOf.2.1 5 = .ok (.aload_n 0, 1) := by decide +kernel
theorem dd_X12_yearOf_6 : decode Y_X12_yearOf.2.1 6 = .ok (.getfield 322, 3) := by decide +kernel
theorem dd_X12_yearOf_9 : decode Y_X12_yearOf.2.1 9 = .ok (.if_icmp .ge 83, 3) := by decide +kernel
theorem dd_X12_yearOf_12 : decode Y_X12_yearOf.2.1 12 = .ok (.aload_n 0, 1) := by decide +kernel
theorem dd_X12_yearOf_13 : decode Y_X12_yearOf.2.1 13 = .ok (.getfield 38, 3) := by decide +kernel
theorem dd_X12_yearOf_16 : decode Y_X12_yearOf.2.1 16 = .ok (.iconst 3, 1) := by decide +kernel
theorem dd_X12_yearOf_17 : decode Y_X12_yearOf.2.1 17 = .ok (.iload_n 3, 1) := by decide +kernel
theorem dd_X12_yearOf_18 : decode Y_X12_yearOf.2.1 18 = .ok (.imul, 1) := by decide +kernel
theorem dd_X12_yearOf_19 : decode Y_X12_yearOf.2.1 19 = .ok (.iaload, 1) := by decide +kernel
theorem dd_X12_yearOf_20 : decode Y_X12_yearOf.2.1 20 = .ok (.aload_n 1, 1) := by decide +kernel
theorem dd_X12_yearOf_21 : decode Y_X12_yearOf.2.1 21 = .ok (.bipush 72, 2) := by decide +kernel
theorem dd_X12_yearOf_23 : decode Y_X12_yearOf.2.1 23 = .ok (.iaload, 1) := by decide +kernel
theorem dd_X12_yearOf_24 : decode Y_X12_yearOf.2.1 24 = .ok (.if_icmp .ne 62, 3) := by decide +kernel
theorem dd_X12_yearOf_27 : decode Y_X12_yearOf.2.1 27 = .ok (.aload_n 0, 1) := by decide +kernel
theorem dd_X12_yearOf_28 : decode Y_X12_yearOf.2.1 28 = .ok (.aload_n 1, 1) := by decide +kernel
theorem dd_X12_yearOf_29 : decode Y_X12_yearOf.2.1 29 = .ok (.aload_n 0, 1) := by decide +kernel
theorem dd_X12_yearOf_30 : decode Y_X12_yearOf.2.1 30 = .ok (.getfield 38, 3) := by decide +kernel
theorem dd_X12_yearOf_33 : decode Y_X12_yearOf.2.1 33 = .ok (.iconst 3, 1) := by decide +kernel
theorem dd_X12_yearOf_34 : decode Y_X12_yearOf.2.1 34 = .ok (.iload_n 3, 1) := by decide +kernel
theorem dd_X12_yearOf_35 : decode Y_X12_yearOf.2.1 35 = .ok (.imul, 1) := by decide +kernel
theorem dd_X12_yearOf_36 : decode Y_X12_yearOf.2.1 36 = .ok (.iconst 1, 1) := by decide +kernel
theorem dd_X12_yearOf_37 : decode Y_X12_yearOf.2.1 37 = .ok (.iadd, 1) := by decide +kernel
theorem dd_X12_yearOf_38 : decode Y_X12_yearOf.2.1 38 = .ok (.iaload, 1) := by decide +kernel
theorem dd_X12_yearOf_39 : decode Y_X12_yearOf.2.1 39 = .ok (.aload_n 0, 1) := by decide +kernel
theorem dd_X12_yearOf_40 : decode Y_X12_yearOf.2.1 40 = .ok (.getfield 38, 3) := by decide +kernel
theorem dd_X12_yearOf_43 : decode Y_X12_yearOf.2.1 43 = .ok (.iconst 3, 1) := by decide +kernel
theorem dd_X12_yearOf_44 : decode Y_X12_yearOf.2.1 44 = .ok (.iload_n 3, 1) := by decide +kernel
theorem dd_X12_yearOf_45 : decode Y_X12_yearOf.2.1 45 = .ok (.imul, 1) := by decide +kernel
theorem dd_X12_yearOf_46 : decode Y_X12_yearOf.2.1 46 = .ok (.iconst 2, 1) := by decide +kernel
theorem dd_X12_yearOf_47 : decode Y_X12_yearOf.2.1 47 = .ok (.iadd, 1) := by decide +kernel
theorem dd_X12_yearOf_48 : decode Y_X12_yearOf.2.1 48 = .ok (.iaload, 1) := by decide +kernel
theorem dd_X12_yearOf_49 : decode Y_X12_yearOf.2.1 49 = .ok (.invokevirtual 381, 3) := by decide +kernel
theorem dd_X12_yearOf_52 : decode Y_X12_yearOf.2.1 52 = .ok (.ifCond .ne 6, 3) := by decide +kernel
theorem dd_X12_yearOf_55 : decode Y_X12_yearOf.2.1 55 = .ok (.goto 31, 3) := by decide +kernel
theorem dd_X12_yearOf_58 : decode Y_X12_yearOf.2.1 58 = .ok (.aload_n 0, 1) := by decide +kernel
theorem dd_X12_yearOf_59 : decode Y_X12_yearOf.2.1 59 = .ok (.aload_n 1, 1) := by decide +kernel
theorem dd_X12_yearOf_60 : decode Y_X12_yearOf.2.1 60 = .ok (.aload_n 0, 1) := by decide +kernel
theorem dd_X12_yearOf_61 : decode Y_X12_yearOf.2.1 61 = .ok (.getfield 38, 3) := by decide +kernel
theorem dd_X12_yearOf_64 : decode Y_X12_yearOf.2.1 64 = .ok (.iconst 3, 1) := by decide +kernel
theorem dd_X12_yearOf_65 : decode Y_X12_yearOf.2.1 65 = .ok (.iload_n 3, 1) := by decide +kernel
theorem dd_X12_yearOf_66 : decode Y_X12_yearOf.2.1 66 = .ok (.imul, 1) := by decide +kernel
theorem dd_X12_yearOf_67 : decode Y_X12_yearOf.2.1 67 = .ok (.iconst 1, 1) := by decide +kernel
theorem dd_X12_yearOf_68 : decode Y_X12_yearOf.2.1 68 = .ok (.iadd, 1) := by decide +kernel
theorem dd_X12_yearOf_69 : decode Y_X12_yearOf.2.1 69 = .ok (.iaload, 1) := by decide +kernel
theorem dd_X12_yearOf_70 : decode Y_X12_yearOf.2.1 70 = .ok (.aload_n 0, 1) := by decide +kernel
theorem dd_X12_yearOf_71 : decode Y_X12_yearOf.2.1 71 = .ok (.getfield 38, 3) := by decide +kernel
theorem dd_X12_yearOf_74 : decode Y_X12_yearOf.2.1 74 = .ok (.iconst 3, 1) := by decide +kernel
theorem dd_X12_yearOf_75 : decode Y_X12_yearOf.2.1 75 = .ok (.iload_n 3, 1) := by decide +kernel
theorem dd_X12_yearOf_76 : decode Y_X12_yearOf.2.1 76 = .ok (.imul, 1) := by decide +kernel
theorem dd_X12_yearOf_77 : decode Y_X12_yearOf.2.1 77 = .ok (.iconst 2, 1) := by decide +kernel
theorem dd_X12_yearOf_78 : decode Y_X12_yearOf.2.1 78 = .ok (.iadd, 1) := by decide +kernel
theorem dd_X12_yearOf_79 : decode Y_X12_yearOf.2.1 79 = .ok (.iaload, 1) := by decide +kernel
theorem dd_X12_yearOf_80 : decode Y_X12_yearOf.2.1 80 = .ok (.invokevirtual 384, 3) := by decide +kernel
theorem dd_X12_yearOf_83 : decode Y_X12_yearOf.2.1 83 = .ok (.iinc 2 1, 3) := by decide +kernel
theorem dd_X12_yearOf_86 : decode Y_X12_yearOf.2.1 86 = .ok (.iinc 3 1, 3) := by decide +kernel
theorem dd_X12_yearOf_89 : decode Y_X12_yearOf.2.1 89 = .ok (.goto (-85), 3) := by decide +kernel
theorem dd_X12_yearOf_92 : decode Y_X12_yearOf.2.1 92 = .ok (.aload_n 1, 1) := by decide +kernel
theorem dd_X12_yearOf_93 : decode Y_X12_yearOf.2.1 93 = .ok (.bipush 72, 2) := by decide +kernel
theorem dd_X12_yearOf_95 : decode Y_X12_yearOf.2.1 95 = .ok (.dup2, 1) := by decide +kernel
theorem dd_X12_yearOf_96 : decode Y_X12_yearOf.2.1 96 = .ok (.iaload, 1) := by decide +kernel
theorem dd_X12_yearOf_97 : decode Y_X12_yearOf.2.1 97 = .ok (.iconst 1, 1) := by decide +kernel
theorem dd_X12_yearOf_98 : decode Y_X12_yearOf.2.1 98 = .ok (.iadd, 1) := by decide +kernel
theorem dd_X12_yearOf_99 : decode Y_X12_yearOf.2.1 99 = .ok (.iastore, 1) := by decide +kernel
theorem dd_X12_yearOf_100 : decode Y_X12_yearOf.2.1 100 = .ok (.iload_n 2, 1) := by decide +kernel
theorem dd_X12_yearOf_101 : decode Y_X12_yearOf.2.1 101 = .ok (.ireturn, 1) := by decide +kernel
def F_X12_yearOf_L4 (x0 : Nat) (x1 : Nat) (K92 : Int32 → zM → zO) : Nat → Int32 → Int32 → zM → zO
  | 0, _, _, _ => none
  | n + 1, x2, x3, M => zit ((M x0 2) ≤ x3) (K92 x2 M) (zck (zin (3 * x3) 36) (zck (zin 72 (zal x1)) (zjo (fun (w1 : Int32) (M3 : zM) => F_X12_yearOf_L4 x0 x1 K92 n w1 (x3 + 1) M3) (fun (k1 : Int32 → zM → zO) => zit ((M (zgr x0 12) (zix (3 * x3))) = (M x1 (zix 72))) (zck (zin ((3 * x3) + 1) 36) (zck (zin ((3 * x3) + 2) 36) (zbI (F_X12_maySwap x0 x1 (M (zgr x0 12) (zix ((3 * x3) + 1))) (M (zgr x0 12) (zix ((3 * x3) + 2))) M) (fun r1 M1 => zit (r1 = 0) (k1 x2 M1) (zck (zin ((3 * x3) + 1) 36) (zck (zin ((3 * x3) + 2) 36) (zbV (F_X12_swapsIn x0 x1 (M1 (zgr x0 12) (zix ((3 * x3) + 1))) (M1 (zgr x0 12) (zix ((3 * x3) + 2))) M1) (fun M2 => k1 (x2 + 1) M2)))))))) (k1 x2 M)))))
def F_X12_yearOf (t : Nat) (a1 : Nat) (M : zM) : zO := F_X12_yearOf_L4 t a1 (fun (y1 : Int32) (M4 : zM) => zck (zin 72 (zal a1)) (zck (zin 72 (zal a1)) (zst (zup M4 a1 (zix 72) ((M4 a1 (zix 72)) + 1)) (fun M5 => zI y1 M5)))) zN 0 0 M
set_option maxHeartbeats 1000000 in
set_option maxRecDepth 20000 in
theorem ct_X12_yearOf_L4 (l : Launch) (hl : l.stackTraces = false) (G : zG) (x0 : Nat) (hx0 : zsh x0 = 12) (x1 : Nat) (hx1 : zsh x1 = 20) (K92 : Int32 → zM → zO) (hK92 : ∀ (x2 : Int32) (M : zM), zEv l G Y_X12_yearOf 5 0 92 [(1, .ref (G.2.1 + x1)), (2, .int x2)] [] M (K92 x2 M)) : ∀ (n : Nat) (x2 : Int32) (x3 : Int32) (M : zM), zEv l G Y_X12_yearOf 5 0 4 [(0, .ref (G.2.1 + x0)), (1, .ref (G.2.1 + x1)), (2, .int x2), (3, .int x3)] [] M (F_X12_yearOf_L4 x0 x1 K92 n x2 x3 M) := by
  intro n
  induction n with
  | zero => intro x2 x3 M; exact ev_none
  | succ n ih =>
    intro x2 x3 M
    show zEv l G Y_X12_yearOf 5 0 4 [(0, .ref (G.2.1 + x0)), (1, .ref (G.2.1 + x1)), (2, .int x2), (3, .int x3)] [] M (zit ((M x0 2) ≤ x3) (K92 x2 M) (zck (zin (3 * x3) 36) (zck (zin 72 (zal x1)) (zjo (fun (w1 : Int32) (M3 : zM) => F_X12_yearOf_L4 x0 x1 K92 n w1 (x3 + 1) M3) (fun (k1 : Int32 → zM → zO) => zit ((M (zgr x0 12) (zix (3 * x3))) = (M x1 (zix 72))) (zck (zin ((3 * x3) + 1) 36) (zck (zin ((3 * x3) + 2) 36) (zbI (F_X12_maySwap x0 x1 (M (zgr x0 12) (zix ((3 * x3) + 1))) (M (zgr x0 12) (zix ((3 * x3) + 2))) M) (fun r1 M1 => zit (r1 = 0) (k1 x2 M1) (zck (zin ((3 * x3) + 1) 36) (zck (zin ((3 * x3) + 2) 36) (zbV (F_X12_swapsIn x0 x1 (M1 (zgr x0 12) (zix ((3 * x3) + 1))) (M1 (zgr x0 12) (zix ((3 * x3) + 2))) M1) (fun M2 => k1 (x2 + 1) M2)))))))) (k1 x2 M))))))
    refine ev_iload_n dd_X12_yearOf_4 3 rfl ?_
    refine ev_aload_n dd_X12_yearOf_5 0 rfl ?_
    refine ev_getI gf_RX12_322 dd_X12_yearOf_6 hx0 (by decide) ?_
    refine ev_icmp_ge 92 dd_X12_yearOf_9 (by decide) ?_ ?_
    · refine ev_lv (lv' := [(1, .ref (G.2.1 + x1)), (2, .int x2)]) [1, 2] rfl ?_
      exact hK92 _ _
    · refine ev_aload_n dd_X12_yearOf_12 0 rfl ?_
      refine ev_getR gf_RX12_38 dd_X12_yearOf_13 hx0 (by decide) ?_
      refine ev_iconst (v := 3) dd_X12_yearOf_16 (by decide) ?_
      refine ev_iload_n dd_X12_yearOf_17 3 rfl ?_
      refine ev_imul dd_X12_yearOf_18 ?_
      refine ev_iald dd_X12_yearOf_19 ((zg_12_12 hx0).1) ((zg_12_12 hx0).2) ?_
      refine ev_aload_n dd_X12_yearOf_20 1 rfl ?_
      refine ev_bipush (v := 72) dd_X12_yearOf_21 (by decide) ?_
      refine ev_iald dd_X12_yearOf_23 hx1 rfl ?_
      refine ev_jo (fun (k1 : Int32 → zM → zO) => ∀ (w1 : Int32) (M3 : zM), zEv l G Y_X12_yearOf 5 0 86 [(0, .ref (G.2.1 + x0)), (1, .ref (G.2.1 + x1)), (2, .int w1), (3, .int x3)] [] M3 (k1 w1 M3)) ?_ (fun k1 hk1 => ?_)
      · intro w1 M3
        refine ev_iinc (j := 3) (v := 1) (lv' := [(0, .ref (G.2.1 + x0)), (1, .ref (G.2.1 + x1)), (2, .int w1), (3, .int (x3 + 1))]) [1, 2, 3, 0] dd_X12_yearOf_86 rfl (by decide) (by decide) rfl ?_
        refine ev_goto 4 dd_X12_yearOf_89 (by decide) ?_
        exact ih _ _ _
      · refine ev_icmp_ne 86 dd_X12_yearOf_24 (by decide) ?_ ?_
        · exact hk1 _ _
        · refine ev_aload_n dd_X12_yearOf_27 0 rfl ?_
          refine ev_aload_n dd_X12_yearOf_28 1 rfl ?_
          refine ev_aload_n dd_X12_yearOf_29 0 rfl ?_
          refine ev_getR gf_RX12_38 dd_X12_yearOf_30 hx0 (by decide) ?_
          refine ev_iconst (v := 3) dd_X12_yearOf_33 (by decide) ?_
          refine ev_iload_n dd_X12_yearOf_34 3 rfl ?_
          refine ev_imul dd_X12_yearOf_35 ?_
          refine ev_iconst (v := 1) dd_X12_yearOf_36 (by decide) ?_
          refine ev_iadd dd_X12_yearOf_37 ?_
          refine ev_iald dd_X12_yearOf_38 ((zg_12_12 hx0).1) ((zg_12_12 hx0).2) ?_
          refine ev_aload_n dd_X12_yearOf_39 0 rfl ?_
          refine ev_getR gf_RX12_38 dd_X12_yearOf_40 hx0 (by decide) ?_
          refine ev_iconst (v := 3) dd_X12_yearOf_43 (by decide) ?_
          refine ev_iload_n dd_X12_yearOf_44 3 rfl ?_
          refine ev_imul dd_X12_yearOf_45 ?_
          refine ev_iconst (v := 2) dd_X12_yearOf_46 (by decide) ?_
          refine ev_iadd dd_X12_yearOf_47 ?_
          refine ev_iald dd_X12_yearOf_48 ((zg_12_12 hx0).1) ((zg_12_12 hx0).2) ?_
          refine ev_callVI (As := [.ref (G.2.1 + x1), .int (M (zgr x0 12) (zix ((3 * x3) + 1))), .int (M (zgr x0 12) (zix ((3 * x3) + 2)))]) cl_RX12_381 (ct_X12_maySwap l hl G x0 hx0 x1 hx1 (M (zgr x0 12) (zix ((3 * x3) + 1))) (M (zgr x0 12) (zix ((3 * x3) + 2))) M) dd_X12_yearOf_49 hx0 (by decide) (Nat.le_of_ble_eq_true rfl) (Nat.le_of_ble_eq_true rfl) rfl rfl (fun r1 M1 => ?_)
          refine ev_if_ne 58 dd_X12_yearOf_52 (by decide) ?_ ?_
          · refine ev_aload_n dd_X12_yearOf_58 0 rfl ?_
            refine ev_aload_n dd_X12_yearOf_59 1 rfl ?_
            refine ev_aload_n dd_X12_yearOf_60 0 rfl ?_
            refine ev_getR gf_RX12_38 dd_X12_yearOf_61 hx0 (by decide) ?_
            refine ev_iconst (v := 3) dd_X12_yearOf_64 (by decide) ?_
            refine ev_iload_n dd_X12_yearOf_65 3 rfl ?_
            refine ev_imul dd_X12_yearOf_66 ?_
            refine ev_iconst (v := 1) dd_X12_yearOf_67 (by decide) ?_
            refine ev_iadd dd_X12_yearOf_68 ?_
            refine ev_iald dd_X12_yearOf_69 ((zg_12_12 hx0).1) ((zg_12_12 hx0).2) ?_
            refine ev_aload_n dd_X12_yearOf_70 0 rfl ?_
            refine ev_getR gf_RX12_38 dd_X12_yearOf_71 hx0 (by decide) ?_
            refine ev_iconst (v := 3) dd_X12_yearOf_74 (by decide) ?_
            refine ev_iload_n dd_X12_yearOf_75 3 rfl ?_
            refine ev_imul dd_X12_yearOf_76 ?_
            refine ev_iconst (v := 2) dd_X12_yearOf_77 (by decide) ?_
            refine ev_iadd dd_X12_yearOf_78 ?_
            refine ev_iald dd_X12_yearOf_79 ((zg_12_12 hx0).1) ((zg_12_12 hx0).2) ?_
            refine ev_callVV (As := [.ref (G.2.1 + x1), .int (M1 (zgr x0 12) (zix ((3 * x3) + 1))), .int (M1 (zgr x0 12) (zix ((3 * x3) + 2)))]) cl_RX12_384 (ct_X12_swapsIn l hl G x0 hx0 x1 hx1 (M1 (zgr x0 12) (zix ((3 * x3) + 1))) (M1 (zgr x0 12) (zix ((3 * x3) + 2))) M1) dd_X12_yearOf_80 hx0 (by decide) (Nat.le_of_ble_eq_true rfl) (Nat.le_of_ble_eq_true rfl) rfl rfl (fun M2 => ?_)
            refine ev_iinc (j := 2) (v := 1) (lv' := [(0, .ref (G.2.1 + x0)), (1, .ref (G.2.1 + x1)), (2, .int (x2 + 1)), (3, .int x3)]) [1, 2, 0, 3] dd_X12_yearOf_83 rfl (by decide) (by decide) rfl ?_
            exact hk1 _ _
          · refine ev_goto 86 dd_X12_yearOf_55 (by decide) ?_
            exact hk1 _ _
set_option maxHeartbeats 1000000 in
set_option maxRecDepth 20000 in
theorem ct_X12_yearOf (l : Launch) (hl : l.stackTraces = false) (G : zG) (t : Nat) (ht : zsh t = 12) (a1 : Nat) (ha1 : zsh a1 = 20) (M : zM) : zMt l G Y_X12_yearOf 5 [.ref (G.2.1 + t), .ref (G.2.1 + a1)] M (F_X12_yearOf t a1 M) := by
  refine zMt_of (by decide +kernel) (Nat.le_of_ble_eq_true rfl) ?_
  show zEv l G Y_X12_yearOf 5 0 0 [(0, .ref (G.2.1 + t)), (1, .ref (G.2.1 + a1))] [] M (F_X12_yearOf_L4 t a1 (fun (y1 : Int32) (M4 : zM) => zck (zin 72 (zal a1)) (zck (zin 72 (zal a1)) (zst (zup M4 a1 (zix 72) ((M4 a1 (zix 72)) + 1)) (fun M5 => zI y1 M5)))) zN 0 0 M)
  refine ev_iconst (v := 0) dd_X12_yearOf_0 (by decide) ?_
  refine ev_istore_n (i := 2) (lv' := [(0, .ref (G.2.1 + t)), (1, .ref (G.2.1 + a1)), (2, .int 0)]) [1, 2, 0] dd_X12_yearOf_1 rfl (by decide) rfl ?_
  refine ev_iconst (v := 0) dd_X12_yearOf_2 (by decide) ?_
  refine ev_istore_n (i := 3) (lv' := [(0, .ref (G.2.1 + t)), (1, .ref (G.2.1 + a1)), (2, .int 0), (3, .int 0)]) [1, 2, 3, 0] dd_X12_yearOf_3 rfl (by decide) rfl ?_
  refine ct_X12_yearOf_L4 l hl G t ht a1 ha1 _ (fun y1 M4 => ?_) zN _ _ _
  refine ev_aload_n dd_X12_yearOf_92 0 rfl ?_
  refine ev_lv (lv' := [(2, .int y1)]) [1] rfl ?_
  refine ev_bipush (v := 72) dd_X12_yearOf_93 (by decide) ?_
  refine ev_dup2 dd_X12_yearOf_95 rfl rfl ?_
  refine ev_iald dd_X12_yearOf_96 ha1 rfl ?_
  refine ev_iconst (v := 1) dd_X12_yearOf_97 (by decide) ?_
  refine ev_iadd dd_X12_yearOf_98 ?_
  refine ev_iast dd_X12_yearOf_99 ha1 rfl ?_
  refine ev_st (fun M5 => ?_)
  refine ev_iload_n dd_X12_yearOf_100 0 rfl ?_
  refine ev_lv (lv' := []) [] rfl ?_
  exact ev_iret dd_X12_yearOf_101 rfl (Nat.le_of_ble_eq_true rfl) rfl
/-! X12_century -/
theorem dd_X12_century_0 : decode Y_X12_century.2.1 0 = .ok (.aload_n 0, 1) := by decide +kernel
theorem dd_X12_century_1 : decode Y_X12_century.2.1 1 = .ok (.iconst 0, 1) := by decide +kernel
theorem dd_X12_century_2 : decode Y_X12_century.2.1 2 = .ok (.putfield 153, 3) := by decide +kernel
theorem dd_X12_century_5 : decode Y_X12_century.2.1 5 = .ok (.iload_n 3, 1) := by decide +kernel
theorem dd_X12_century_6 : decode Y_X12_century.2.1 6 = .ok (.iconst (-1), 1) := by decide +kernel
theorem dd_X12_century_7 : decode Y_X12_century.2.1 7 = .ok (.if_icmp .eq 11, 3) := by decide +kernel
theorem dd_X12_century_10 : decode Y_X12_century.2.1 10 = .ok (.aload_n 0, 1) := by decide +kernel
theorem dd_X12_century_11 : decode Y_X12_century.2.1 11 = .ok (.iload_n 3, 1) := by decide +kernel
theorem dd_X12_century_12 : decode Y_X12_century.2.1 12 = .ok (.invokevirtual 346, 3) := by decide +kernel
theorem dd_X12_century_15 : decode Y_X12_century.2.1 15 = .ok (.ifCond .eq 18, 3) := by decide +kernel
theorem dd_X12_century_18 : decode Y_X12_century.2.1 18 = .ok (.aload_n 0, 1) := by decide +kernel
theorem dd_X12_century_19 : decode Y_X12_century.2.1 19 = .ok (.iload_n 2, 1) := by decide +kernel
theorem dd_X12_century_20 : decode Y_X12_century.2.1 20 = .ok (.iconst 0, 1) := by decide +kernel
theorem dd_X12_century_21 : decode Y_X12_century.2.1 21 = .ok (.bipush 100, 2) := by decide +kernel
theorem dd_X12_century_23 : decode Y_X12_century.2.1 23 = .ok (.invokestatic 339, 3) := by decide +kernel
theorem dd_X12_century_26 : decode Y_X12_century.2.1 26 = .ok (.iconst 2, 1) := by decide +kernel
theorem dd_X12_century_27 : decode Y_X12_century.2.1 27 = .ok (.invokevirtual 312, 3) := by decide +kernel
theorem dd_X12_century_30 : decode Y_X12_century.2.1 30 = .ok (.ifCond .ne 5, 3) := by decide +kernel
theorem dd_X12_century_33 : decode Y_X12_century.2.1 33 = .ok (.iconst 0, 1) := by decide +kernel
theorem dd_X12_century_34 : decode Y_X12_century.2.1 34 = .ok (.ireturn, 1) := by decide +kernel
theorem dd_X12_century_35 : decode Y_X12_century.2.1 35 = .ok (.aload_n 0, 1) := by decide +kernel
theorem dd_X12_century_36 : decode Y_X12_century.2.1 36 = .ok (.aload_n 0, 1) := by decide +kernel
theorem dd_X12_century_37 : decode Y_X12_century.2.1 37 = .ok (.getfield 87, 3) := by decide +kernel
theorem dd_X12_century_40 : decode Y_X12_century.2.1 40 = .ok (.aload_n 0, 1) := by decide +kernel
theorem dd_X12_century_41 : decode Y_X12_century.2.1 41 = .ok (.getfield 90, 3) := by decide +kernel
theorem dd_X12_century_44 : decode Y_X12_century.2.1 44 = .ok (.invokevirtual 325, 3) := by decide +kernel
theorem dd_X12_century_47 : decode Y_X12_century.2.1 47 = .ok (.aload_n 0, 1) := by decide +kernel
theorem dd_X12_century_48 : decode Y_X12_century.2.1 48 = .ok (.iload_n 1, 1) := by decide +kernel
theorem dd_X12_century_49 : decode Y_X12_century.2.1 49 = .ok (.putfield 465, 3) := by decide +kernel
theorem dd_X12_century_52 : decode Y_X12_century.2.1 52 = .ok (.iconst 0, 1) := by decide +kernel
theorem dd_X12_century_53 : decode Y_X12_century.2.1 53 = .ok (.istore 4, 2) := by decide +kernel
theorem dd_X12_century_55 : decode Y_X12_century.2.1 55 = .ok (.iconst 0, 1) := by decide +kernel
theorem dd_X12_century_56 : decode Y_X12_century.2.1 56 = .ok (.istore 5, 2) := by decide +kernel
theorem dd_X12_century_58 : decode Y_X12_century.2.1 58 = .ok (.iload 5, 2) := by decide +kernel
theorem dd_X12_century_60 : decode Y_X12_century.2.1 60 = .ok (.iload_n 2, 1) := by decide +kernel
theorem dd_X12_century_61 : decode Y_X12_century.2.1 61 = .ok (.if_icmp .ge 82, 3) := by decide +kernel
theorem dd_X12_century_64 : decode Y_X12_century.2.1 64 = .ok (.aload_n 0, 1) := by decide +kernel
theorem dd_X12_century_65 : decode Y_X12_century.2.1 65 = .ok (.getfield 319, 3) := by decide +kernel
theorem dd_X12_century_68 : decode Y_X12_century.2.1 68 = .ok (.ifCond .le 60, 3) := by decide +kernel
theorem dd_X12_century_71 : decode Y_X12_century.2.1 71 = .ok (.aload_n 0, 1) := by decide +kernel
theorem dd_X12_century_72 : decode Y_X12_century.2.1 72 = .ok (.aload_n 0, 1) := by decide +kernel
theorem dd_X12_century_73 : decode Y_X12_century.2.1 73 = .ok (.getfield 319, 3) := by decide +kernel
theorem dd_X12_century_76 : decode Y_X12_century.2.1 76 = .ok (.invokevirtual 469, 3) := by decide +kernel
theorem dd_X12_century_79 : decode Y_X12_century.2.1 79 = .ok (.istore 6, 2) := by decide +kernel
theorem dd_X12_century_81 : decode Y_X12_century.2.1 81 = .ok (.aload_n 0, 1) := by decide +kernel
theorem dd_X12_century_82 : decode Y_X12_century.2.1 82 = .ok (.aload_n 0, 1) := by decide +kernel
theorem dd_X12_century_83 : decode Y_X12_century.2.1 83 = .ok (.getfield 319, 3) := by decide +kernel
theorem dd_X12_century_86 : decode Y_X12_century.2.1 86 = .ok (.invokevirtual 469, 3) := by decide +kernel
theorem dd_X12_century_89 : decode Y_X12_century.2.1 89 = .ok (.istore 7, 2) := by decide +kernel
theorem dd_X12_century_91 : decode Y_X12_century.2.1 91 = .ok (.iload 6, 2) := by decide +kernel
theorem dd_X12_century_93 : decode Y_X12_century.2.1 93 = .ok (.iload 7, 2) := by decide +kernel
theorem dd_X12_century_95 : decode Y_X12_century.2.1 95 = .ok (.if_icmp .eq 33, 3) := by decide +kernel
theorem dd_X12_century_98 : decode Y_X12_century.2.1 98 = .ok (.aload_n 0, 1) := by decide +kernel
theorem dd_X12_century_99 : decode Y_X12_century.2.1 99 = .ok (.aload_n 0, 1) := by decide +kernel
theorem dd_X12_century_100 : decode Y_X12_century.2.1 100 = .ok (.getfield 90, 3) := by decide +kernel
theorem dd_X12_century_103 : decode Y_X12_century.2.1 103 = .ok (.iload 6, 2) := by decide +kernel
theorem dd_X12_century_105 : decode Y_X12_century.2.1 105 = .ok (.iload 7, 2) := by decide +kernel
theorem dd_X12_century_107 : decode Y_X12_century.2.1 107 = .ok (.invokevirtual 381, 3) := by decide +kernel
theorem dd_X12_century_110 : decode Y_X12_century.2.1 110 = .ok (.ifCond .eq 18, 3) := by decide +kernel
theorem dd_X12_century_113 : decode Y_X12_century.2.1 113 = .ok (.aload_n 0, 1) := by decide +kernel
theorem dd_X12_century_114 : decode Y_X12_century.2.1 114 = .ok (.aload_n 0, 1) := by decide +kernel
theorem dd_X12_century_115 : decode Y_X12_century.2.1 115 = .ok (.getfield 90, 3) := by decide +kernel
theorem dd_X12_century_118 : decode Y_X12_century.2.1 118 = .ok (.iload 6, 2) := by decide +kernel
theorem dd_X12_century_120 : decode Y_X12_century.2.1 120 = .ok (.iload 7, 2) := by decide +kernel
theorem dd_X12_century_122 : decode Y_X12_century.2.1 122 = .ok (.invokevirtual 384, 3) := by decide +kernel
theorem dd_X12_century_125 : decode Y_X12_century.2.1 125 = .ok (.iinc 4 1, 3) := by decide +kernel
theorem dd_X12_century_128 : decode Y_X12_century.2.1 128 = .ok (.aload_n 0, 1) := by decide +kernel
theorem dd_X12_century_129 : decode Y_X12_century.2.1 129 = .ok (.aload_n 0, 1) := by decide +kernel
theorem dd_X12_century_130 : decode Y_X12_century.2.1 130 = .ok (.getfield 90, 3) := by decide +kernel
theorem dd_X12_century_133 : decode Y_X12_century.2.1 133 = .ok (.invokevirtual 393, 3) := by decide +kernel
theorem dd_X12_century_136 : decode Y_X12_century.2.1 136 = .ok (.pop, 1) := by decide +kernel
theorem dd_X12_century_137 : decode Y_X12_century.2.1 137 = .ok (.iinc 5 1, 3) := by decide +kernel
theorem dd_X12_century_140 : decode Y_X12_century.2.1 140 = .ok (.goto (-82), 3) := by decide +kernel
theorem dd_X12_century_143 : decode Y_X12_century.2.1 143 = .ok (.iload_n 3, 1) := by decide +kernel
theorem dd_X12_century_144 : decode Y_X12_century.2.1 144 = .ok (.iconst (-1), 1) := by decide +kernel
theorem dd_X12_century_145 : decode Y_X12_century.2.1 145 = .ok (.if_icmp .ne 8, 3) := by decide +kernel
theorem dd_X12_century_148 : decode Y_X12_century.2.1 148 = .ok (.iload 4, 2) := by decide +kernel
theorem dd_X12_century_150 : decode Y_X12_century.2.1 150 = .ok (.goto 9, 3) := by decide +kernel
theorem dd_X12_century_153 : decode Y_X12_century.2.1 153 = .ok (.aload_n 0, 1) := by decide +kernel
theorem dd_X12_century_154 : decode Y_X12_century.2.1 154 = .ok (.getfield 90, 3) := by decide +kernel
theorem dd_X12_century_157 : decode Y_X12_century.2.1 157 = .ok (.iload_n 3, 1) := by decide +kernel
theorem dd_X12_century_158 : decode Y_X12_century.2.1 158 = .ok (.iaload, 1) := by decide +kernel
theorem dd_X12_century_159 : decode Y_X12_century.2.1 159 = .ok (.ireturn, 1) := by decide +kernel
def F_X12_century_L58 (x0 : Nat) (x2 : Int32) (x3 : Int32) (K143 : Int32 → zM → zO) : Nat → Int32 → Int32 → zM → zO
  | 0, _, _, _ => none
  | n + 1, x4, x5, M => zit (x2 ≤ x5) (K143 x4 M) (zjo (fun (w1 : Int32) (M12 : zM) => zbI (F_X12_yearOf x0 (zgr x0 48) M12) (fun r7 M13 => F_X12_century_L58 x0 x2 x3 K143 n w1 (x5 + 1) M13)) (fun (k3 : Int32 → zM → zO) => zit ((M x0 1) ≤ 0) (k3 x4 M) (zbI (F_X12_draw x0 (M x0 1) M) (fun r4 M8 => zbI (F_X12_draw x0 (M8 x0 1) M8) (fun r5 M9 => zit (r4 = r5) (k3 x4 M9) (zbI (F_X12_maySwap x0 (zgr x0 48) r4 r5 M9) (fun r6 M10 => zit (r6 = 0) (k3 x4 M10) (zbV (F_X12_swapsIn x0 (zgr x0 48) r4 r5 M10) (fun M11 => k3 (x4 + 1) M11)))))))))
def F_X12_century (t : Nat) (a1 : Int32) (a2 : Int32) (a3 : Int32) (M : zM) : zO := zst (zup M t 0 0) (fun M1 => zjo (fun  (M16 : zM) => zI 0 M16) (fun (k1 : zM → zO) => zjo (fun  (M3 : zM) => zbI (F_X12_within a2 0 100 M3) (fun r2 M4 => zbI (F_X12_right t r2 2 M4) (fun r3 M5 => zit (r3 = 0) (k1 M5) (zbV (F_X12_copies t (zgr t 47) (zgr t 48) M5) (fun M6 => zst (zup M6 t 72 a1) (fun M7 => F_X12_century_L58 t a2 a3 (fun (y1 : Int32) (M14 : zM) => zjo (fun (w2 : Int32) (M15 : zM) => zI w2 M15) (fun (k4 : Int32 → zM → zO) => zit (a3 = (-1)) (k4 y1 M14) (zck (zin a3 73) (k4 (M14 (zgr t 48) (zix a3)) M14)))) zN 0 0 M7)))))) (fun (k2 : zM → zO) => zit (a3 = (-1)) (k2 M1) (zbI (F_X12_isOne t a3 M1) (fun r1 M2 => zit (r1 = 0) (k1 M2) (k2 M2))))))
set_option maxHeartbeats 1000000 in
set_option maxRecDepth 20000 in
theorem ct_X12_century_L58 (l : Launch) (hl : l.stackTraces = false) (G : zG) (x0 : Nat) (hx0 : zsh x0 = 12) (x2 : Int32) (x3 : Int32) (K143 : Int32 → zM → zO) (hK143 : ∀ (x4 : Int32) (M : zM), zEv l G Y_X12_century 6 0 143 [(0, .ref (G.2.1 + x0)), (3, .int x3), (4, .int x4)] [] M (K143 x4 M)) : ∀ (n : Nat) (x4 : Int32) (x5 : Int32) (M : zM), zEv l G Y_X12_century 6 0 58 [(0, .ref (G.2.1 + x0)), (2, .int x2), (3, .int x3), (4, .int x4), (5, .int x5)] [] M (F_X12_century_L58 x0 x2 x3 K143 n x4 x5 M) := by
  intro n
  induction n with
  | zero => intro x4 x5 M; exact ev_none
  | succ n ih =>
    intro x4 x5 M
    show zEv l G Y_X12_century 6 0 58 [(0, .ref (G.2.1 + x0)), (2, .int x2), (3, .int x3), (4, .int x4), (5, .int x5)] [] M (zit (x2 ≤ x5) (K143 x4 M) (zjo (fun (w1 : Int32) (M12 : zM) => zbI (F_X12_yearOf x0 (zgr x0 48) M12) (fun r7 M13 => F_X12_century_L58 x0 x2 x3 K143 n w1 (x5 + 1) M13)) (fun (k3 : Int32 → zM → zO) => zit ((M x0 1) ≤ 0) (k3 x4 M) (zbI (F_X12_draw x0 (M x0 1) M) (fun r4 M8 => zbI (F_X12_draw x0 (M8 x0 1) M8) (fun r5 M9 => zit (r4 = r5) (k3 x4 M9) (zbI (F_X12_maySwap x0 (zgr x0 48) r4 r5 M9) (fun r6 M10 => zit (r6 = 0) (k3 x4 M10) (zbV (F_X12_swapsIn x0 (zgr x0 48) r4 r5 M10) (fun M11 => k3 (x4 + 1) M11))))))))))
    refine ev_iload dd_X12_century_58 4 rfl ?_
    refine ev_iload_n dd_X12_century_60 1 rfl ?_
    refine ev_icmp_ge 143 dd_X12_century_61 (by decide) ?_ ?_
    · refine ev_lv (lv' := [(0, .ref (G.2.1 + x0)), (3, .int x3), (4, .int x4)]) [0, 2, 3] rfl ?_
      exact hK143 _ _
    · refine ev_aload_n dd_X12_century_64 0 rfl ?_
      refine ev_getI gf_RX12_319 dd_X12_century_65 hx0 (by decide) ?_
      refine ev_jo (fun (k3 : Int32 → zM → zO) => ∀ (w1 : Int32) (M12 : zM), zEv l G Y_X12_century 6 0 128 [(0, .ref (G.2.1 + x0)), (2, .int x2), (3, .int x3), (4, .int w1), (5, .int x5)] [] M12 (k3 w1 M12)) ?_ (fun k3 hk3 => ?_)
      · intro w1 M12
        refine ev_aload_n dd_X12_century_128 0 rfl ?_
        refine ev_aload_n dd_X12_century_129 0 rfl ?_
        refine ev_getR gf_RX12_90 dd_X12_century_130 hx0 (by decide) ?_
        refine ev_callVI (As := [.ref (G.2.1 + (zgr x0 48))]) cl_RX12_393 (ct_X12_yearOf l hl G x0 hx0 (zgr x0 48) ((zg_12_48 hx0).1) M12) dd_X12_century_133 hx0 (by decide) (Nat.le_of_ble_eq_true rfl) (Nat.le_of_ble_eq_true rfl) rfl rfl (fun r7 M13 => ?_)
        refine ev_pop dd_X12_century_136 rfl ?_
        refine ev_iinc (j := 4) (v := 1) (lv' := [(0, .ref (G.2.1 + x0)), (2, .int x2), (3, .int x3), (4, .int w1), (5, .int (x5 + 1))]) [1, 2, 3, 4, 0] dd_X12_century_137 rfl (by decide) (by decide) rfl ?_
        refine ev_goto 58 dd_X12_century_140 (by decide) ?_
        exact ih _ _ _
      · refine ev_if_le 128 dd_X12_century_68 (by decide) ?_ ?_
        · exact hk3 _ _
        · refine ev_aload_n dd_X12_century_71 0 rfl ?_
          refine ev_aload_n dd_X12_century_72 0 rfl ?_
          refine ev_getI gf_RX12_319 dd_X12_century_73 hx0 (by decide) ?_
          refine ev_callVI (As := [.int (M x0 1)]) cl_RX12_469 (ct_X12_draw l hl G x0 hx0 (M x0 1) M) dd_X12_century_76 hx0 (by decide) (Nat.le_of_ble_eq_true rfl) (Nat.le_of_ble_eq_true rfl) rfl rfl (fun r4 M8 => ?_)
          refine ev_istore (i := 6) (lv' := [(0, .ref (G.2.1 + x0)), (2, .int x2), (3, .int x3), (4, .int x4), (5, .int x5), (6, .int r4)]) [1, 2, 3, 4, 5, 0] dd_X12_century_79 (by decide) rfl ?_
          refine ev_aload_n dd_X12_century_81 0 rfl ?_
          refine ev_aload_n dd_X12_century_82 0 rfl ?_
          refine ev_getI gf_RX12_319 dd_X12_century_83 hx0 (by decide) ?_
          refine ev_callVI (As := [.int (M8 x0 1)]) cl_RX12_469 (ct_X12_draw l hl G x0 hx0 (M8 x0 1) M8) dd_X12_century_86 hx0 (by decide) (Nat.le_of_ble_eq_true rfl) (Nat.le_of_ble_eq_true rfl) rfl rfl (fun r5 M9 => ?_)
          refine ev_istore (i := 7) (lv' := [(0, .ref (G.2.1 + x0)), (2, .int x2), (3, .int x3), (4, .int x4), (5, .int x5), (6, .int r4), (7, .int r5)]) [1, 2, 3, 4, 5, 6, 0] dd_X12_century_89 (by decide) rfl ?_
          refine ev_iload dd_X12_century_91 5 rfl ?_
          refine ev_iload dd_X12_century_93 6 rfl ?_
          refine ev_icmp_eq 128 dd_X12_century_95 (by decide) ?_ ?_
          · refine ev_lv (lv' := [(0, .ref (G.2.1 + x0)), (2, .int x2), (3, .int x3), (4, .int x4), (5, .int x5)]) [0, 1, 2, 3, 4] rfl ?_
            exact hk3 _ _
          · refine ev_aload_n dd_X12_century_98 0 rfl ?_
            refine ev_aload_n dd_X12_century_99 0 rfl ?_
            refine ev_getR gf_RX12_90 dd_X12_century_100 hx0 (by decide) ?_
            refine ev_iload dd_X12_century_103 5 rfl ?_
            refine ev_iload dd_X12_century_105 6 rfl ?_
            refine ev_callVI (As := [.ref (G.2.1 + (zgr x0 48)), .int r4, .int r5]) cl_RX12_381 (ct_X12_maySwap l hl G x0 hx0 (zgr x0 48) ((zg_12_48 hx0).1) r4 r5 M9) dd_X12_century_107 hx0 (by decide) (Nat.le_of_ble_eq_true rfl) (Nat.le_of_ble_eq_true rfl) rfl rfl (fun r6 M10 => ?_)
            refine ev_if_eq 128 dd_X12_century_110 (by decide) ?_ ?_
            · refine ev_lv (lv' := [(0, .ref (G.2.1 + x0)), (2, .int x2), (3, .int x3), (4, .int x4), (5, .int x5)]) [0, 1, 2, 3, 4] rfl ?_
              exact hk3 _ _
            · refine ev_aload_n dd_X12_century_113 0 rfl ?_
              refine ev_aload_n dd_X12_century_114 0 rfl ?_
              refine ev_getR gf_RX12_90 dd_X12_century_115 hx0 (by decide) ?_
              refine ev_iload dd_X12_century_118 5 rfl ?_
              refine ev_lv (lv' := [(0, .ref (G.2.1 + x0)), (2, .int x2), (3, .int x3), (4, .int x4), (5, .int x5), (7, .int r5)]) [0, 1, 2, 3, 4, 6] rfl ?_
              refine ev_iload dd_X12_century_120 5 rfl ?_
              refine ev_lv (lv' := [(0, .ref (G.2.1 + x0)), (2, .int x2), (3, .int x3), (4, .int x4), (5, .int x5)]) [0, 1, 2, 3, 4] rfl ?_
              refine ev_callVV (As := [.ref (G.2.1 + (zgr x0 48)), .int r4, .int r5]) cl_RX12_384 (ct_X12_swapsIn l hl G x0 hx0 (zgr x0 48) ((zg_12_48 hx0).1) r4 r5 M10) dd_X12_century_122 hx0 (by decide) (Nat.le_of_ble_eq_true rfl) (Nat.le_of_ble_eq_true rfl) rfl rfl (fun M11 => ?_)
              refine ev_iinc (j := 3) (v := 1) (lv' := [(0, .ref (G.2.1 + x0)), (2, .int x2), (3, .int x3), (4, .int (x4 + 1)), (5, .int x5)]) [1, 2, 3, 0, 4] dd_X12_century_125 rfl (by decide) (by decide) rfl ?_
              exact hk3 _ _
set_option maxHeartbeats 1000000 in
set_option maxRecDepth 20000 in
theorem ct_X12_century (l : Launch) (hl : l.stackTraces = false) (G : zG) (t : Nat) (ht : zsh t = 12) (a1 : Int32) (a2 : Int32) (a3 : Int32) (M : zM) : zMt l G Y_X12_century 6 [.ref (G.2.1 + t), .int a1, .int a2, .int a3] M (F_X12_century t a1 a2 a3 M) := by
  refine zMt_of (by decide +kernel) (Nat.le_of_ble_eq_true rfl) ?_
  show zEv l G Y_X12_century 6 0 0 [(0, .ref (G.2.1 + t)), (1, .int a1), (2, .int a2), (3, .int a3)] [] M (zst (zup M t 0 0) (fun M1 => zjo (fun  (M16 : zM) => zI 0 M16) (fun (k1 : zM → zO) => zjo (fun  (M3 : zM) => zbI (F_X12_within a2 0 100 M3) (fun r2 M4 => zbI (F_X12_right t r2 2 M4) (fun r3 M5 => zit (r3 = 0) (k1 M5) (zbV (F_X12_copies t (zgr t 47) (zgr t 48) M5) (fun M6 => zst (zup M6 t 72 a1) (fun M7 => F_X12_century_L58 t a2 a3 (fun (y1 : Int32) (M14 : zM) => zjo (fun (w2 : Int32) (M15 : zM) => zI w2 M15) (fun (k4 : Int32 → zM → zO) => zit (a3 = (-1)) (k4 y1 M14) (zck (zin a3 73) (k4 (M14 (zgr t 48) (zix a3)) M14)))) zN 0 0 M7)))))) (fun (k2 : zM → zO) => zit (a3 = (-1)) (k2 M1) (zbI (F_X12_isOne t a3 M1) (fun r1 M2 => zit (r1 = 0) (k1 M2) (k2 M2)))))))
  refine ev_aload_n dd_X12_century_0 0 rfl ?_
  refine ev_iconst (v := 0) dd_X12_century_1 (by decide) ?_
  refine ev_putI gw_RX12_153 dd_X12_century_2 ht (by decide) ?_
  refine ev_st (fun M1 => ?_)
  refine ev_iload_n dd_X12_century_5 3 rfl ?_
  refine ev_iconst (v := (-1)) dd_X12_century_6 (by decide) ?_
  refine ev_jo (fun (k1 : zM → zO) => ∀  (M16 : zM), zEv l G Y_X12_century 6 0 33 [] [] M16 (k1 M16)) ?_ (fun k1 hk1 => ?_)
  · intro M16
    refine ev_iconst (v := 0) dd_X12_century_33 (by decide) ?_
    exact ev_iret dd_X12_century_34 rfl (Nat.le_of_ble_eq_true rfl) rfl
  · refine ev_jo (fun (k2 : zM → zO) => ∀  (M3 : zM), zEv l G Y_X12_century 6 0 18 [(0, .ref (G.2.1 + t)), (1, .int a1), (2, .int a2), (3, .int a3)] [] M3 (k2 M3)) ?_ (fun k2 hk2 => ?_)
    · intro M3
      refine ev_aload_n dd_X12_century_18 0 rfl ?_
      refine ev_iload_n dd_X12_century_19 2 rfl ?_
      refine ev_iconst (v := 0) dd_X12_century_20 (by decide) ?_
      refine ev_bipush (v := 100) dd_X12_century_21 (by decide) ?_
      refine ev_callSI (As := [.int a2, .int 0, .int 100]) cl_RX12_339 (ct_X12_within l hl G a2 0 100 M3) dd_X12_century_23 (by decide) (Nat.le_of_ble_eq_true rfl) (Nat.le_of_ble_eq_true rfl) rfl rfl (fun r2 M4 => ?_)
      refine ev_iconst (v := 2) dd_X12_century_26 (by decide) ?_
      refine ev_callVI (As := [.int r2, .int 2]) cl_RX12_312 (ct_X12_right l hl G t ht r2 2 M4) dd_X12_century_27 ht (by decide) (Nat.le_of_ble_eq_true rfl) (Nat.le_of_ble_eq_true rfl) rfl rfl (fun r3 M5 => ?_)
      refine ev_if_ne 35 dd_X12_century_30 (by decide) ?_ ?_
      · refine ev_aload_n dd_X12_century_35 0 rfl ?_
        refine ev_aload_n dd_X12_century_36 0 rfl ?_
        refine ev_getR gf_RX12_87 dd_X12_century_37 ht (by decide) ?_
        refine ev_aload_n dd_X12_century_40 0 rfl ?_
        refine ev_getR gf_RX12_90 dd_X12_century_41 ht (by decide) ?_
        refine ev_callVV (As := [.ref (G.2.1 + (zgr t 47)), .ref (G.2.1 + (zgr t 48))]) cl_RX12_325 (ct_X12_copies l hl G t ht (zgr t 47) ((zg_12_47 ht).1) (zgr t 48) ((zg_12_48 ht).1) M5) dd_X12_century_44 ht (by decide) (Nat.le_of_ble_eq_true rfl) (Nat.le_of_ble_eq_true rfl) rfl rfl (fun M6 => ?_)
        refine ev_aload_n dd_X12_century_47 0 rfl ?_
        refine ev_iload_n dd_X12_century_48 1 rfl ?_
        refine ev_lv (lv' := [(0, .ref (G.2.1 + t)), (2, .int a2), (3, .int a3)]) [0, 2, 3] rfl ?_
        refine ev_putI gw_RX12_465 dd_X12_century_49 ht (by decide) ?_
        refine ev_st (fun M7 => ?_)
        refine ev_iconst (v := 0) dd_X12_century_52 (by decide) ?_
        refine ev_istore (i := 4) (lv' := [(0, .ref (G.2.1 + t)), (2, .int a2), (3, .int a3), (4, .int 0)]) [1, 2, 3, 0] dd_X12_century_53 (by decide) rfl ?_
        refine ev_iconst (v := 0) dd_X12_century_55 (by decide) ?_
        refine ev_istore (i := 5) (lv' := [(0, .ref (G.2.1 + t)), (2, .int a2), (3, .int a3), (4, .int 0), (5, .int 0)]) [1, 2, 3, 4, 0] dd_X12_century_56 (by decide) rfl ?_
        refine ct_X12_century_L58 l hl G t ht a2 a3 _ (fun y1 M14 => ?_) zN _ _ _
        refine ev_iload_n dd_X12_century_143 1 rfl ?_
        refine ev_iconst (v := (-1)) dd_X12_century_144 (by decide) ?_
        refine ev_jo (fun (k4 : Int32 → zM → zO) => ∀ (w2 : Int32) (M15 : zM), zEv l G Y_X12_century 6 0 159 [] [.int w2] M15 (k4 w2 M15)) ?_ (fun k4 hk4 => ?_)
        · intro w2 M15
          exact ev_iret dd_X12_century_159 rfl (Nat.le_of_ble_eq_true rfl) rfl
        · refine ev_icmp_ne 153 dd_X12_century_145 (by decide) ?_ ?_
          · refine ev_lv (lv' := [(0, .ref (G.2.1 + t)), (3, .int a3)]) [0, 1] rfl ?_
            refine ev_aload_n dd_X12_century_153 0 rfl ?_
            refine ev_lv (lv' := [(3, .int a3)]) [1] rfl ?_
            refine ev_getR gf_RX12_90 dd_X12_century_154 ht (by decide) ?_
            refine ev_iload_n dd_X12_century_157 0 rfl ?_
            refine ev_lv (lv' := []) [] rfl ?_
            refine ev_iald dd_X12_century_158 ((zg_12_48 ht).1) ((zg_12_48 ht).2) ?_
            exact hk4 _ _
          · refine ev_lv (lv' := [(4, .int y1)]) [2] rfl ?_
            refine ev_iload dd_X12_century_148 0 rfl ?_
            refine ev_lv (lv' := []) [] rfl ?_
            refine ev_goto 159 dd_X12_century_150 (by decide) ?_
            exact hk4 _ _
      · refine ev_lv (lv' := []) [] rfl ?_
        exact hk1 _
    · refine ev_icmp_eq 18 dd_X12_century_7 (by decide) ?_ ?_
      · exact hk2 _
      · refine ev_aload_n dd_X12_century_10 0 rfl ?_
        refine ev_iload_n dd_X12_century_11 3 rfl ?_
        refine ev_callVI (As := [.int a3]) cl_RX12_346 (ct_X12_isOne l hl G t ht a3 M1) dd_X12_century_12 ht (by decide) (Nat.le_of_ble_eq_true rfl) (Nat.le_of_ble_eq_true rfl) rfl rfl (fun r1 M2 => ?_)
        refine ev_if_eq 33 dd_X12_century_15 (by decide) ?_ ?_
        · refine ev_lv (lv' := []) [] rfl ?_
          exact hk1 _
        · exact hk2 _
/-! X12_gains -/
theorem dd_X12_gains_0 : decode Y_X12_gains.2.1 0 = .ok (.iload_n 2, 1) := by decide +kernel
theorem dd_X12_gains_1 : decode Y_X12_gains.2.1 1 = .ok (.iload_n 3, 1) := by decide +kernel
theorem dd_X12_gains_2 : decode Y_X12_gains.2.1 2 = .ok (.if_icmp .ne 7, 3) := by decide +kernel
theorem dd_X12_gains_5 : decode Y_X12_gains.2.1 5 = .ok (.iconst 0, 1) := by decide +kernel
theorem dd_X12_gains_6 : decode Y_X12_gains.2.1 6 = .ok (.goto 24, 3) := by decide +kernel
theorem dd_X12_gains_9 : decode Y_X12_gains.2.1 9 = .ok (.bipush 10, 2) := by decide +kernel
theorem dd_X12_gains_11 : decode Y_X12_gains.2.1 11 = .ok (.aload_n 0, 1) := by decide +kernel
theorem dd_X12_gains_12 : decode Y_X12_gains.2.1 12 = .ok (.getfield 20, 3) := by decide +kernel
theorem dd_X12_gains_15 : decode Y_X12_gains.2.1 15 = .ok (.iload_n 2, 1) := by decide +kernel
theorem dd_X12_gains_16 : decode Y_X12_gains.2.1 16 = .ok (.iaload, 1) := by decide +kernel
theorem dd_X12_gains_17 : decode Y_X12_gains.2.1 17 = .ok (.imul, 1) := by decide +kernel
theorem dd_X12_gains_18 : decode Y_X12_gains.2.1 18 = .ok (.aload_n 0, 1) := by decide +kernel
theorem dd_X12_gains_19 : decode Y_X12_gains.2.1 19 = .ok (.iload_n 2, 1) := by decide +kernel
theorem dd_X12_gains_20 : decode Y_X12_gains.2.1 20 = .ok (.aload_n 0, 1) := by decide +kernel
theorem dd_X12_gains_21 : decode Y_X12_gains.2.1 21 = .ok (.getfield 87, 3) := by decide +kernel
theorem dd_X12_gains_24 : decode Y_X12_gains.2.1 24 = .ok (.iload_n 1, 1) := by decide +kernel
theorem dd_X12_gains_25 : decode Y_X12_gains.2.1 25 = .ok (.iaload, 1) := by decide +kernel
theorem dd_X12_gains_26 : decode Y_X12_gains.2.1 26 = .ok (.invokevirtual 367, 3) := by decide +kernel
theorem dd_X12_gains_29 : decode Y_X12_gains.2.1 29 = .ok (.isub, 1) := by decide +kernel
theorem dd_X12_gains_30 : decode Y_X12_gains.2.1 30 = .ok (.ireturn, 1) := by decide +kernel
def F_X12_gains (t : Nat) (a1 : Int32) (a2 : Int32) (a3 : Int32) (M : zM) : zO := zjo (fun (w1 : Int32) (M2 : zM) => zI w1 M2) (fun (k1 : Int32 → zM → zO) => zit (a2 = a3) (k1 0 M) (zck (zin a2 8) (zck (zin a1 73) (zbI (F_X12_apart t a2 (M (zgr t 47) (zix a1)) M) (fun r1 M1 => k1 ((10 * (M (zgr t 6) (zix a2))) - r1) M1)))))
set_option maxHeartbeats 1000000 in
set_option maxRecDepth 20000 in
theorem ct_X12_gains (l : Launch) (hl : l.stackTraces = false) (G : zG) (t : Nat) (ht : zsh t = 12) (a1 : Int32) (a2 : Int32) (a3 : Int32) (M : zM) : zMt l G Y_X12_gains 3 [.ref (G.2.1 + t), .int a1, .int a2, .int a3] M (F_X12_gains t a1 a2 a3 M) := by
  refine zMt_of (by decide +kernel) (Nat.le_of_ble_eq_true rfl) ?_
  show zEv l G Y_X12_gains 3 0 0 [(0, .ref (G.2.1 + t)), (1, .int a1), (2, .int a2), (3, .int a3)] [] M (zjo (fun (w1 : Int32) (M2 : zM) => zI w1 M2) (fun (k1 : Int32 → zM → zO) => zit (a2 = a3) (k1 0 M) (zck (zin a2 8) (zck (zin a1 73) (zbI (F_X12_apart t a2 (M (zgr t 47) (zix a1)) M) (fun r1 M1 => k1 ((10 * (M (zgr t 6) (zix a2))) - r1) M1))))))
  refine ev_iload_n dd_X12_gains_0 2 rfl ?_
  refine ev_iload_n dd_X12_gains_1 3 rfl ?_
  refine ev_lv (lv' := [(0, .ref (G.2.1 + t)), (1, .int a1), (2, .int a2)]) [0, 1, 2] rfl ?_
  refine ev_jo (fun (k1 : Int32 → zM → zO) => ∀ (w1 : Int32) (M2 : zM), zEv l G Y_X12_gains 3 0 30 [] [.int w1] M2 (k1 w1 M2)) ?_ (fun k1 hk1 => ?_)
  · intro w1 M2
    exact ev_iret dd_X12_gains_30 rfl (Nat.le_of_ble_eq_true rfl) rfl
  · refine ev_icmp_ne 9 dd_X12_gains_2 (by decide) ?_ ?_
    · refine ev_bipush (v := 10) dd_X12_gains_9 (by decide) ?_
      refine ev_aload_n dd_X12_gains_11 0 rfl ?_
      refine ev_getR gf_RX12_20 dd_X12_gains_12 ht (by decide) ?_
      refine ev_iload_n dd_X12_gains_15 2 rfl ?_
      refine ev_iald dd_X12_gains_16 ((zg_12_6 ht).1) ((zg_12_6 ht).2) ?_
      refine ev_imul dd_X12_gains_17 ?_
      refine ev_aload_n dd_X12_gains_18 0 rfl ?_
      refine ev_iload_n dd_X12_gains_19 2 rfl ?_
      refine ev_lv (lv' := [(0, .ref (G.2.1 + t)), (1, .int a1)]) [0, 1] rfl ?_
      refine ev_aload_n dd_X12_gains_20 0 rfl ?_
      refine ev_lv (lv' := [(1, .int a1)]) [1] rfl ?_
      refine ev_getR gf_RX12_87 dd_X12_gains_21 ht (by decide) ?_
      refine ev_iload_n dd_X12_gains_24 0 rfl ?_
      refine ev_lv (lv' := []) [] rfl ?_
      refine ev_iald dd_X12_gains_25 ((zg_12_47 ht).1) ((zg_12_47 ht).2) ?_
      refine ev_callVI (As := [.int a2, .int (M (zgr t 47) (zix a1))]) cl_RX12_367 (ct_X12_apart l hl G t ht a2 (M (zgr t 47) (zix a1)) M) dd_X12_gains_26 ht (by decide) (Nat.le_of_ble_eq_true rfl) (Nat.le_of_ble_eq_true rfl) rfl rfl (fun r1 M1 => ?_)
      refine ev_isub dd_X12_gains_29 ?_
      exact hk1 _ _
    · refine ev_lv (lv' := []) [] rfl ?_
      refine ev_iconst (v := 0) dd_X12_gains_5 (by decide) ?_
      refine ev_goto 30 dd_X12_gains_6 (by decide) ?_
      exact hk1 _ _
/-! X12_isWhat -/
theorem dd_X12_isWhat_0 : decode Y_X12_isWhat.2.1 0 = .ok (.aload_n 0, 1) := by decide +kernel
theorem dd_X12_isWhat_1 : decode Y_X12_isWhat.2.1 1 = .ok (.iload_n 1, 1) := by decide +kernel
theorem dd_X12_isWhat_2 : decode Y_X12_isWhat.2.1 2 = .ok (.iconst 0, 1) := by decide +kernel
theorem dd_X12_isWhat_3 : decode Y_X12_isWhat.2.1 3 = .ok (.iload_n 2, 1) := by decide +kernel
theorem dd_X12_isWhat_4 : decode Y_X12_isWhat.2.1 4 = .ok (.invokestatic 339, 3) := by decide +kernel
theorem dd_X12_isWhat_7 : decode Y_X12_isWhat.2.1 7 = .ok (.iconst 1, 1) := by decide +kernel
theorem dd_X12_isWhat_8 : decode Y_X12_isWhat.2.1 8 = .ok (.invokevirtual 312, 3) := by decide +kernel
theorem dd_X12_isWhat_11 : decode Y_X12_isWhat.2.1 11 = .ok (.ireturn, 1) := by decide +kernel
def F_X12_isWhat (t : Nat) (a1 : Int32) (a2 : Int32) (M : zM) : zO := zbI (F_X12_within a1 0 a2 M) (fun r1 M1 => zbI (F_X12_right t r1 1 M1) (fun r2 M2 => zck (zbo r2) (zI r2 M2)))
set_option maxHeartbeats 1000000 in
set_option maxRecDepth 20000 in
theorem ct_X12_isWhat (l : Launch) (hl : l.stackTraces = false) (G : zG) (t : Nat) (ht : zsh t = 12) (a1 : Int32) (a2 : Int32) (M : zM) : zMt l G Y_X12_isWhat 2 [.ref (G.2.1 + t), .int a1, .int a2] M (F_X12_isWhat t a1 a2 M) := by
  refine zMt_of (by decide +kernel) (Nat.le_of_ble_eq_true rfl) ?_
  show zEv l G Y_X12_isWhat 2 0 0 [(0, .ref (G.2.1 + t)), (1, .int a1), (2, .int a2)] [] M (zbI (F_X12_within a1 0 a2 M) (fun r1 M1 => zbI (F_X12_right t r1 1 M1) (fun r2 M2 => zck (zbo r2) (zI r2 M2))))
  refine ev_aload_n dd_X12_isWhat_0 0 rfl ?_
  refine ev_lv (lv' := [(1, .int a1), (2, .int a2)]) [1, 2] rfl ?_
  refine ev_iload_n dd_X12_isWhat_1 0 rfl ?_
  refine ev_lv (lv' := [(2, .int a2)]) [1] rfl ?_
  refine ev_iconst (v := 0) dd_X12_isWhat_2 (by decide) ?_
  refine ev_iload_n dd_X12_isWhat_3 0 rfl ?_
  refine ev_lv (lv' := []) [] rfl ?_
  refine ev_callSI (As := [.int a1, .int 0, .int a2]) cl_RX12_339 (ct_X12_within l hl G a1 0 a2 M) dd_X12_isWhat_4 (by decide) (Nat.le_of_ble_eq_true rfl) (Nat.le_of_ble_eq_true rfl) rfl rfl (fun r1 M1 => ?_)
  refine ev_iconst (v := 1) dd_X12_isWhat_7 (by decide) ?_
  refine ev_callVI (As := [.int r1, .int 1]) cl_RX12_312 (ct_X12_right l hl G t ht r1 1 M1) dd_X12_isWhat_8 ht (by decide) (Nat.le_of_ble_eq_true rfl) (Nat.le_of_ble_eq_true rfl) rfl rfl (fun r2 M2 => ?_)
  exact ev_zret dd_X12_isWhat_11 rfl (Nat.le_of_ble_eq_true rfl) rfl
/-! X12_clerks -/
theorem dd_X12_clerks_0 : decode Y_X12_clerks.2.1 0 = .ok (.aload_n 0, 1) := by decide +kernel
theorem dd_X12_clerks_1 : decode Y_X12_clerks.2.1 1 = .ok (.iconst 0, 1) := by decide +kernel
theorem dd_X12_clerks_2 : decode Y_X12_clerks.2.1 2 = .ok (.putfield 153, 3) := by decide +kernel
theorem dd_X12_clerks_5 : decode Y_X12_clerks.2.1 5 = .ok (.aload_n 0, 1) := by decide +kernel
theorem dd_X12_clerks_6 : decode Y_X12_clerks.2.1 6 = .ok (.iload_n 1, 1) := by decide +kernel
theorem dd_X12_clerks_7 : decode Y_X12_clerks.2.1 7 = .ok (.invokevirtual 346, 3) := by decide +kernel
theorem dd_X12_clerks_10 : decode Y_X12_clerks.2.1 10 = .ok (.ifCond .eq 38, 3) := by decide +kernel
theorem dd_X12_clerks_13 : decode Y_X12_clerks.2.1 13 = .ok (.aload_n 0, 1) := by decide +kernel
theorem dd_X12_clerks_14 : decode Y_X12_clerks.2.1 14 = .ok (.iload_n 2, 1) := by decide +kernel
theorem dd_X12_clerks_15 : decode Y_X12_clerks.2.1 15 = .ok (.invokevirtual 346, 3) := by decide +kernel
theorem dd_X12_clerks_18 : decode Y_X12_clerks.2.1 18 = .ok (.ifCond .eq 30, 3) := by decide +kernel
theorem dd_X12_clerks_21 : decode Y_X12_clerks.2.1 21 = .ok (.aload_n 0, 1) := by decide +kernel
theorem dd_X12_clerks_22 : decode Y_X12_clerks.2.1 22 = .ok (.iload_n 3, 1) := by decide +kernel
theorem dd_X12_clerks_23 : decode Y_X12_clerks.2.1 23 = .ok (.iconst 1, 1) := by decide +kernel
theorem dd_X12_clerks_24 : decode Y_X12_clerks.2.1 24 = .ok (.invokevirtual 349, 3) := by decide +kernel
theorem dd_X12_clerks_27 : decode Y_X12_clerks.2.1 27 = .ok (.ifCond .eq 21, 3) := by decide +kernel
theorem dd_X12_clerks_30 : decode Y_X12_clerks.2.1 30 = .ok (.aload_n 0, 1) := by decide +kernel
theorem dd_X12_clerks_31 : decode Y_X12_clerks.2.1 31 = .ok (.iload_n 1, 1) := by decide +kernel
theorem dd_X12_clerks_32 : decode Y_X12_clerks.2.1 32 = .ok (.iload_n 2, 1) := by decide +kernel
theorem dd_X12_clerks_33 : decode Y_X12_clerks.2.1 33 = .ok (.if_icmp .eq 7, 3) := by decide +kernel
theorem dd_X12_clerks_36 : decode Y_X12_clerks.2.1 36 = .ok (.iconst 1, 1) := by decide +kernel
theorem dd_X12_clerks_37 : decode Y_X12_clerks.2.1 37 = .ok (.goto 4, 3) := by decide +kernel
theorem dd_X12_clerks_40 : decode Y_X12_clerks.2.1 40 = .ok (.iconst 0, 1) := by decide +kernel
theorem dd_X12_clerks_41 : decode Y_X12_clerks.2.1 41 = .ok (.iconst 2, 1) := by decide +kernel
theorem dd_X12_clerks_42 : decode Y_X12_clerks.2.1 42 = .ok (.invokevirtual 312, 3) := by decide +kernel
theorem dd_X12_clerks_45 : decode Y_X12_clerks.2.1 45 = .ok (.ifCond .ne 5, 3) := by decide +kernel
theorem dd_X12_clerks_48 : decode Y_X12_clerks.2.1 48 = .ok (.iconst 0, 1) := by decide +kernel
theorem dd_X12_clerks_49 : decode Y_X12_clerks.2.1 49 = .ok (.ireturn, 1) := by decide +kernel
theorem dd_X12_clerks_50 : decode Y_X12_clerks.2.1 50 = .ok (.iconst 0, 1) := by decide +kernel
theorem dd_X12_clerks_51 : decode Y_X12_clerks.2.1 51 = .ok (.istore 4, 2) := by decide +kernel
theorem dd_X12_clerks_53 : decode Y_X12_clerks.2.1 53 = .ok (.iconst (-1), 1) := by decide +kernel
theorem dd_X12_clerks_54 : decode Y_X12_clerks.2.1 54 = .ok (.istore 5, 2) := by decide +kernel
theorem dd_X12_clerks_56 : decode Y_X12_clerks.2.1 56 = .ok (.iconst 0, 1) := by decide +kernel
theorem dd_X12_clerks_57 : decode Y_X12_clerks.2.1 57 = .ok (.istore 6, 2) := by decide +kernel
theorem dd_X12_clerks_59 : decode Y_X12_clerks.2.1 59 = .ok (.iload 6, 2) := by decide +kernel
theorem dd_X12_clerks_61 : decode Y_X12_clerks.2.1 61 = .ok (.aload_n 0, 1) := by decide +kernel
theorem dd_X12_clerks_62 : decode Y_X12_clerks.2.1 62 = .ok (.getfield 319, 3) := by decide +kernel
theorem dd_X12_clerks_65 : decode Y_X12_clerks.2.1 65 = .ok (.if_icmp .ge 129, 3) := by decide +kernel
theorem dd_X12_clerks_68 : decode Y_X12_clerks.2.1 68 = .ok (.iconst 0, 1) := by decide +kernel
theorem dd_X12_clerks_69 : decode Y_X12_clerks.2.1 69 = .ok (.istore 7, 2) := by decide +kernel
theorem dd_X12_clerks_71 : decode Y_X12_clerks.2.1 71 = .ok (.iload 7, 2) := by decide +kernel
theorem dd_X12_clerks_73 : decode Y_X12_clerks.2.1 73 = .ok (.aload_n 0, 1) := by decide +kernel
theorem dd_X12_clerks_74 : decode Y_X12_clerks.2.1 74 = .ok (.getfield 319, 3) := by decide +kernel
theorem dd_X12_clerks_77 : decode Y_X12_clerks.2.1 77 = .ok (.if_icmp .ge 111, 3) := by decide +kernel
theorem dd_X12_clerks_80 : decode Y_X12_clerks.2.1 80 = .ok (.iconst 1, 1) := by decide +kernel
theorem dd_X12_clerks_81 : decode Y_X12_clerks.2.1 81 = .ok (.istore 8, 2) := by decide +kernel
theorem dd_X12_clerks_83 : decode Y_X12_clerks.2.1 83 = .ok (.iconst 0, 1) := by decide +kernel
theorem dd_X12_clerks_84 : decode Y_X12_clerks.2.1 84 = .ok (.istore 9, 2) := by decide +kernel
theorem dd_X12_clerks_86 : decode Y_X12_clerks.2.1 86 = .ok (.iload 9, 2) := by decide +kernel
theorem dd_X12_clerks_88 : decode Y_X12_clerks.2.1 88 = .ok (.aload_n 0, 1) := by decide +kernel
theorem dd_X12_clerks_89 : decode Y_X12_clerks.2.1 89 = .ok (.getfield 319, 3) := by decide +kernel
theorem dd_X12_clerks_92 : decode Y_X12_clerks.2.1 92 = .ok (.if_icmp .ge 63, 3) := by decide +kernel
theorem dd_X12_clerks_95 : decode Y_X12_clerks.2.1 95 = .ok (.iload 8, 2) := by decide +kernel
theorem dd_X12_clerks_97 : decode Y_X12_clerks.2.1 97 = .ok (.ifCond .eq 49, 3) := by decide +kernel
theorem dd_X12_clerks_100 : decode Y_X12_clerks.2.1 100 = .ok (.aload_n 0, 1) := by decide +kernel
theorem dd_X12_clerks_101 : decode Y_X12_clerks.2.1 101 = .ok (.iload_n 1, 1) := by decide +kernel
theorem dd_X12_clerks_102 : decode Y_X12_clerks.2.1 102 = .ok (.iload 9, 2) := by decide +kernel
theorem dd_X12_clerks_104 : decode Y_X12_clerks.2.1 104 = .ok (.iload 7, 2) := by decide +kernel
theorem dd_X12_clerks_106 : decode Y_X12_clerks.2.1 106 = .ok (.invokevirtual 462, 3) := by decide +kernel
theorem dd_X12_clerks_109 : decode Y_X12_clerks.2.1 109 = .ok (.aload_n 0, 1) := by decide +kernel
theorem dd_X12_clerks_110 : decode Y_X12_clerks.2.1 110 = .ok (.iload_n 1, 1) := by decide +kernel
theorem dd_X12_clerks_111 : decode Y_X12_clerks.2.1 111 = .ok (.iload 6, 2) := by decide +kernel
theorem dd_X12_clerks_113 : decode Y_X12_clerks.2.1 113 = .ok (.iload 7, 2) := by decide +kernel
theorem dd_X12_clerks_115 : decode Y_X12_clerks.2.1 115 = .ok (.invokevirtual 462, 3) := by decide +kernel
theorem dd_X12_clerks_118 : decode Y_X12_clerks.2.1 118 = .ok (.if_icmp .gt 28, 3) := by decide +kernel
theorem dd_X12_clerks_121 : decode Y_X12_clerks.2.1 121 = .ok (.aload_n 0, 1) := by decide +kernel
theorem dd_X12_clerks_122 : decode Y_X12_clerks.2.1 122 = .ok (.iload_n 2, 1) := by decide +kernel
theorem dd_X12_clerks_123 : decode Y_X12_clerks.2.1 123 = .ok (.iload 9, 2) := by decide +kernel
theorem dd_X12_clerks_125 : decode Y_X12_clerks.2.1 125 = .ok (.iload 6, 2) := by decide +kernel
theorem dd_X12_clerks_127 : decode Y_X12_clerks.2.1 127 = .ok (.invokevirtual 462, 3) := by decide +kernel
theorem dd_X12_clerks_130 : decode Y_X12_clerks.2.1 130 = .ok (.aload_n 0, 1) := by decide +kernel
theorem dd_X12_clerks_131 : decode Y_X12_clerks.2.1 131 = .ok (.iload_n 2, 1) := by decide +kernel
theorem dd_X12_clerks_132 : decode Y_X12_clerks.2.1 132 = .ok (.iload 7, 2) := by decide +kernel
theorem dd_X12_clerks_134 : decode Y_X12_clerks.2.1 134 = .ok (.iload 6, 2) := by decide +kernel
theorem dd_X12_clerks_136 : decode Y_X12_clerks.2.1 136 = .ok (.invokevirtual 462, 3) := by decide +kernel
theorem dd_X12_clerks_139 : decode Y_X12_clerks.2.1 139 = .ok (.if_icmp .gt 7, 3) := by decide +kernel
theorem dd_X12_clerks_142 : decode Y_X12_clerks.2.1 142 = .ok (.iconst 1, 1) := by decide +kernel
theorem dd_X12_clerks_143 : decode Y_X12_clerks.2.1 143 = .ok (.goto 4, 3) := by decide +kernel
theorem dd_X12_clerks_146 : decode Y_X12_clerks.2.1 146 = .ok (.iconst 0, 1) := by decide +kernel
theorem dd_X12_clerks_147 : decode Y_X12_clerks.2.1 147 = .ok (.istore 8, 2) := by decide +kernel
theorem dd_X12_clerks_149 : decode Y_X12_clerks.2.1 149 = .ok (.iinc 9 1, 3) := by decide +kernel
theorem dd_X12_clerks_152 : decode Y_X12_clerks.2.1 152 = .ok (.goto (-66), 3) := by decide +kernel
theorem dd_X12_clerks_155 : decode Y_X12_clerks.2.1 155 = .ok (.iload 8, 2) := by decide +kernel
theorem dd_X12_clerks_157 : decode Y_X12_clerks.2.1 157 = .ok (.ifCond .ne 6, 3) := by decide +kernel
theorem dd_X12_clerks_160 : decode Y_X12_clerks.2.1 160 = .ok (.goto 22, 3) := by decide +kernel
theorem dd_X12_clerks_163 : decode Y_X12_clerks.2.1 163 = .ok (.iinc 4 1, 3) := by decide +kernel
theorem dd_X12_clerks_166 : decode Y_X12_clerks.2.1 166 = .ok (.iload 5, 2) := by decide +kernel
theorem dd_X12_clerks_168 : decode Y_X12_clerks.2.1 168 = .ok (.iconst (-1), 1) := by decide +kernel
theorem dd_X12_clerks_169 : decode Y_X12_clerks.2.1 169 = .ok (.if_icmp .ne 13, 3) := by decide +kernel
theorem dd_X12_clerks_172 : decode Y_X12_clerks.2.1 172 = .ok (.bipush 10, 2) := by decide +kernel
theorem dd_X12_clerks_174 : decode Y_X12_clerks.2.1 174 = .ok (.iload 6, 2) := by decide +kernel
theorem dd_X12_clerks_176 : decode Y_X12_clerks.2.1 176 = .ok (.imul, 1) := by decide +kernel
theorem dd_X12_clerks_177 : decode Y_X12_clerks.2.1 177 = .ok (.iload 7, 2) := by decide +kernel
theorem dd_X12_clerks_179 : decode Y_X12_clerks.2.1 179 = .ok (.iadd, 1) := by decide +kernel
theorem dd_X12_clerks_180 : decode Y_X12_clerks.2.1 180 = .ok (.istore 5, 2) := by decide +kernel
theorem dd_X12_clerks_182 : decode Y_X12_clerks.2.1 182 = .ok (.iinc 7 1, 3) := by decide +kernel
theorem dd_X12_clerks_185 : decode Y_X12_clerks.2.1 185 = .ok (.goto (-114), 3) := by decide +kernel
theorem dd_X12_clerks_188 : decode Y_X12_clerks.2.1 188 = .ok (.iinc 6 1, 3) := by decide +kernel
theorem dd_X12_clerks_191 : decode Y_X12_clerks.2.1 191 = .ok (.goto (-132), 3) := by decide +kernel
theorem dd_X12_clerks_194 : decode Y_X12_clerks.2.1 194 = .ok (.iload_n 3, 1) := by decide +kernel
theorem dd_X12_clerks_195 : decode Y_X12_clerks.2.1 195 = .ok (.ifCond .ne 8, 3) := by decide +kernel
theorem dd_X12_clerks_198 : decode Y_X12_clerks.2.1 198 = .ok (.iload 4, 2) := by decide +kernel
theorem dd_X12_clerks_200 : decode Y_X12_clerks.2.1 200 = .ok (.goto 5, 3) := by decide +kernel
theorem dd_X12_clerks_203 : decode Y_X12_clerks.2.1 203 = .ok (.iload 5, 2) := by decide +kernel
theorem dd_X12_clerks_205 : decode Y_X12_clerks.2.1 205 = .ok (.ireturn, 1) := by decide +kernel
def F_X12_clerks_L86 (x0 : Nat) (x1 : Int32) (x2 : Int32) (x3 : Int32) (x4 : Int32) (x5 : Int32) (x6 : Int32) (x7 : Int32) (K155 : Int32 → zM → zO) : Nat → Int32 → Int32 → zM → zO
  | 0, _, _, _ => none
  | n + 1, x8, x9, M => zit ((M x0 1) ≤ x9) (K155 x8 M) (zjo (fun (w2 : Int32) (M12 : zM) => F_X12_clerks_L86 x0 x1 x2 x3 x4 x5 x6 x7 K155 n w2 (x9 + 1) M12) (fun (k3 : Int32 → zM → zO) => zjo (fun  (M11 : zM) => k3 0 M11) (fun (k4 : zM → zO) => zit (x8 = 0) (k4 M) (zbI (F_X12_gains x0 x1 x9 x7 M) (fun r5 M7 => zbI (F_X12_gains x0 x1 x6 x7 M7) (fun r6 M8 => zit (r6 < r5) (k4 M8) (zbI (F_X12_gains x0 x2 x9 x6 M8) (fun r7 M9 => zbI (F_X12_gains x0 x2 x7 x6 M9) (fun r8 M10 => zit (r8 < r7) (k4 M10) (k3 1 M10))))))))))
def F_X12_clerks_L71 (x0 : Nat) (x1 : Int32) (x2 : Int32) (x3 : Int32) (x6 : Int32) (K188 : Int32 → Int32 → zM → zO) : Nat → Int32 → Int32 → Int32 → zM → zO
  | 0, _, _, _, _ => none
  | n + 1, x4, x5, x7, M => zit ((M x0 1) ≤ x7) (K188 x4 x5 M) (F_X12_clerks_L86 x0 x1 x2 x3 x4 x5 x6 x7 (fun (y1 : Int32) (M13 : zM) => zjo (fun (w3 : Int32) (w4 : Int32) (M14 : zM) => F_X12_clerks_L71 x0 x1 x2 x3 x6 K188 n w3 w4 (x7 + 1) M14) (fun (k5 : Int32 → Int32 → zM → zO) => zit (y1 = 0) (k5 x4 x5 M13) (zit (x5 = (-1)) (zlt ((10 * x6) + x7) (fun v1 => k5 (x4 + 1) v1 M13)) (k5 (x4 + 1) x5 M13)))) zN 1 0 M)
def F_X12_clerks_L59 (x0 : Nat) (x1 : Int32) (x2 : Int32) (x3 : Int32) (K194 : Int32 → Int32 → zM → zO) : Nat → Int32 → Int32 → Int32 → zM → zO
  | 0, _, _, _, _ => none
  | n + 1, x4, x5, x6, M => zit ((M x0 1) ≤ x6) (K194 x4 x5 M) (F_X12_clerks_L71 x0 x1 x2 x3 x6 (fun (y2 : Int32) (y3 : Int32) (M15 : zM) => F_X12_clerks_L59 x0 x1 x2 x3 K194 n y2 y3 (x6 + 1) M15) zN x4 x5 0 M)
def F_X12_clerks (t : Nat) (a1 : Int32) (a2 : Int32) (a3 : Int32) (M : zM) : zO := zst (zup M t 0 0) (fun M1 => zbI (F_X12_isOne t a1 M1) (fun r1 M2 => zjo (fun  (M18 : zM) => zI 0 M18) (fun (k1 : zM → zO) => zit (r1 = 0) (k1 M2) (zbI (F_X12_isOne t a2 M2) (fun r2 M3 => zit (r2 = 0) (k1 M3) (zbI (F_X12_isWhat t a3 1 M3) (fun r3 M4 => zit (r3 = 0) (k1 M4) (zjo (fun (w1 : Int32) (M5 : zM) => zbI (F_X12_right t w1 2 M5) (fun r4 M6 => zit (r4 = 0) (k1 M6) (F_X12_clerks_L59 t a1 a2 a3 (fun (y4 : Int32) (y5 : Int32) (M16 : zM) => zjo (fun (w5 : Int32) (M17 : zM) => zI w5 M17) (fun (k6 : Int32 → zM → zO) => zit (a3 = 0) (k6 y4 M16) (k6 y5 M16))) zN 0 (-1) 0 M6))) (fun (k2 : Int32 → zM → zO) => zit (a1 = a2) (k2 0 M4) (k2 1 M4))))))))))
set_option maxHeartbeats 1000000 in
set_option maxRecDepth 20000 in
theorem ct_X12_clerks_L86 (l : Launch) (hl : l.stackTraces = false) (G : zG) (x0 : Nat) (hx0 : zsh x0 = 12) (x1 : Int32) (x2 : Int32) (x3 : Int32) (x4 : Int32) (x5 : Int32) (x6 : Int32) (x7 : Int32) (K155 : Int32 → zM → zO) (hK155 : ∀ (x8 : Int32) (M : zM), zEv l G Y_X12_clerks 4 0 155 [(0, .ref (G.2.1 + x0)), (1, .int x1), (2, .int x2), (3, .int x3), (4, .int x4), (5, .int x5), (6, .int x6), (7, .int x7), (8, .int x8)] [] M (K155 x8 M)) : ∀ (n : Nat) (x8 : Int32) (x9 : Int32) (M : zM), zEv l G Y_X12_clerks 4 0 86 [(0, .ref (G.2.1 + x0)), (1, .int x1), (2, .int x2), (3, .int x3), (4, .int x4), (5, .int x5), (6, .int x6), (7, .int x7), (8, .int x8), (9, .int x9)] [] M (F_X12_clerks_L86 x0 x1 x2 x3 x4 x5 x6 x7 K155 n x8 x9 M) := by
  intro n
  induction n with
  | zero => intro x8 x9 M; exact ev_none
  | succ n ih =>
    intro x8 x9 M
    show zEv l G Y_X12_clerks 4 0 86 [(0, .ref (G.2.1 + x0)), (1, .int x1), (2, .int x2), (3, .int x3), (4, .int x4), (5, .int x5), (6, .int x6), (7, .int x7), (8, .int x8), (9, .int x9)] [] M (zit ((M x0 1) ≤ x9) (K155 x8 M) (zjo (fun (w2 : Int32) (M12 : zM) => F_X12_clerks_L86 x0 x1 x2 x3 x4 x5 x6 x7 K155 n w2 (x9 + 1) M12) (fun (k3 : Int32 → zM → zO) => zjo (fun  (M11 : zM) => k3 0 M11) (fun (k4 : zM → zO) => zit (x8 = 0) (k4 M) (zbI (F_X12_gains x0 x1 x9 x7 M) (fun r5 M7 => zbI (F_X12_gains x0 x1 x6 x7 M7) (fun r6 M8 => zit (r6 < r5) (k4 M8) (zbI (F_X12_gains x0 x2 x9 x6 M8) (fun r7 M9 => zbI (F_X12_gains x0 x2 x7 x6 M9) (fun r8 M10 => zit (r8 < r7) (k4 M10) (k3 1 M10)))))))))))
    refine ev_iload dd_X12_clerks_86 9 rfl ?_
    refine ev_aload_n dd_X12_clerks_88 0 rfl ?_
    refine ev_getI gf_RX12_319 dd_X12_clerks_89 hx0 (by decide) ?_
    refine ev_icmp_ge 155 dd_X12_clerks_92 (by decide) ?_ ?_
    · refine ev_lv (lv' := [(0, .ref (G.2.1 + x0)), (1, .int x1), (2, .int x2), (3, .int x3), (4, .int x4), (5, .int x5), (6, .int x6), (7, .int x7), (8, .int x8)]) [0, 1, 2, 3, 4, 5, 6, 7, 8] rfl ?_
      exact hK155 _ _
    · refine ev_iload dd_X12_clerks_95 8 rfl ?_
      refine ev_lv (lv' := [(0, .ref (G.2.1 + x0)), (1, .int x1), (2, .int x2), (3, .int x3), (4, .int x4), (5, .int x5), (6, .int x6), (7, .int x7), (9, .int x9)]) [0, 1, 2, 3, 4, 5, 6, 7, 9] rfl ?_
      refine ev_jo (fun (k3 : Int32 → zM → zO) => ∀ (w2 : Int32) (M12 : zM), zEv l G Y_X12_clerks 4 0 147 [(0, .ref (G.2.1 + x0)), (1, .int x1), (2, .int x2), (3, .int x3), (4, .int x4), (5, .int x5), (6, .int x6), (7, .int x7), (9, .int x9)] [.int w2] M12 (k3 w2 M12)) ?_ (fun k3 hk3 => ?_)
      · intro w2 M12
        refine ev_istore (i := 8) (lv' := [(0, .ref (G.2.1 + x0)), (1, .int x1), (2, .int x2), (3, .int x3), (4, .int x4), (5, .int x5), (6, .int x6), (7, .int x7), (8, .int w2), (9, .int x9)]) [1, 2, 3, 4, 5, 6, 7, 8, 0, 9] dd_X12_clerks_147 (by decide) rfl ?_
        refine ev_iinc (j := 9) (v := 1) (lv' := [(0, .ref (G.2.1 + x0)), (1, .int x1), (2, .int x2), (3, .int x3), (4, .int x4), (5, .int x5), (6, .int x6), (7, .int x7), (8, .int w2), (9, .int (x9 + 1))]) [1, 2, 3, 4, 5, 6, 7, 8, 9, 0] dd_X12_clerks_149 rfl (by decide) (by decide) rfl ?_
        refine ev_goto 86 dd_X12_clerks_152 (by decide) ?_
        exact ih _ _ _
      · refine ev_jo (fun (k4 : zM → zO) => ∀  (M11 : zM), zEv l G Y_X12_clerks 4 0 146 [(0, .ref (G.2.1 + x0)), (1, .int x1), (2, .int x2), (3, .int x3), (4, .int x4), (5, .int x5), (6, .int x6), (7, .int x7), (9, .int x9)] [] M11 (k4 M11)) ?_ (fun k4 hk4 => ?_)
        · intro M11
          refine ev_iconst (v := 0) dd_X12_clerks_146 (by decide) ?_
          exact hk3 _ _
        · refine ev_if_eq 146 dd_X12_clerks_97 (by decide) ?_ ?_
          · exact hk4 _
          · refine ev_aload_n dd_X12_clerks_100 0 rfl ?_
            refine ev_iload_n dd_X12_clerks_101 1 rfl ?_
            refine ev_iload dd_X12_clerks_102 8 rfl ?_
            refine ev_iload dd_X12_clerks_104 7 rfl ?_
            refine ev_callVI (As := [.int x1, .int x9, .int x7]) cl_RX12_462 (ct_X12_gains l hl G x0 hx0 x1 x9 x7 M) dd_X12_clerks_106 hx0 (by decide) (Nat.le_of_ble_eq_true rfl) (Nat.le_of_ble_eq_true rfl) rfl rfl (fun r5 M7 => ?_)
            refine ev_aload_n dd_X12_clerks_109 0 rfl ?_
            refine ev_iload_n dd_X12_clerks_110 1 rfl ?_
            refine ev_iload dd_X12_clerks_111 6 rfl ?_
            refine ev_iload dd_X12_clerks_113 7 rfl ?_
            refine ev_callVI (As := [.int x1, .int x6, .int x7]) cl_RX12_462 (ct_X12_gains l hl G x0 hx0 x1 x6 x7 M7) dd_X12_clerks_115 hx0 (by decide) (Nat.le_of_ble_eq_true rfl) (Nat.le_of_ble_eq_true rfl) rfl rfl (fun r6 M8 => ?_)
            refine ev_icmp_gt 146 dd_X12_clerks_118 (by decide) ?_ ?_
            · exact hk4 _
            · refine ev_aload_n dd_X12_clerks_121 0 rfl ?_
              refine ev_iload_n dd_X12_clerks_122 2 rfl ?_
              refine ev_iload dd_X12_clerks_123 8 rfl ?_
              refine ev_iload dd_X12_clerks_125 6 rfl ?_
              refine ev_callVI (As := [.int x2, .int x9, .int x6]) cl_RX12_462 (ct_X12_gains l hl G x0 hx0 x2 x9 x6 M8) dd_X12_clerks_127 hx0 (by decide) (Nat.le_of_ble_eq_true rfl) (Nat.le_of_ble_eq_true rfl) rfl rfl (fun r7 M9 => ?_)
              refine ev_aload_n dd_X12_clerks_130 0 rfl ?_
              refine ev_iload_n dd_X12_clerks_131 2 rfl ?_
              refine ev_iload dd_X12_clerks_132 7 rfl ?_
              refine ev_iload dd_X12_clerks_134 6 rfl ?_
              refine ev_callVI (As := [.int x2, .int x7, .int x6]) cl_RX12_462 (ct_X12_gains l hl G x0 hx0 x2 x7 x6 M9) dd_X12_clerks_136 hx0 (by decide) (Nat.le_of_ble_eq_true rfl) (Nat.le_of_ble_eq_true rfl) rfl rfl (fun r8 M10 => ?_)
              refine ev_icmp_gt 146 dd_X12_clerks_139 (by decide) ?_ ?_
              · exact hk4 _
              · refine ev_iconst (v := 1) dd_X12_clerks_142 (by decide) ?_
                refine ev_goto 147 dd_X12_clerks_143 (by decide) ?_
                exact hk3 _ _
set_option maxHeartbeats 1000000 in
set_option maxRecDepth 20000 in
theorem ct_X12_clerks_L71 (l : Launch) (hl : l.stackTraces = false) (G : zG) (x0 : Nat) (hx0 : zsh x0 = 12) (x1 : Int32) (x2 : Int32) (x3 : Int32) (x6 : Int32) (K188 : Int32 → Int32 → zM → zO) (hK188 : ∀ (x4 : Int32) (x5 : Int32) (M : zM), zEv l G Y_X12_clerks 4 0 188 [(0, .ref (G.2.1 + x0)), (1, .int x1), (2, .int x2), (3, .int x3), (4, .int x4), (5, .int x5), (6, .int x6)] [] M (K188 x4 x5 M)) : ∀ (n : Nat) (x4 : Int32) (x5 : Int32) (x7 : Int32) (M : zM), zEv l G Y_X12_clerks 4 0 71 [(0, .ref (G.2.1 + x0)), (1, .int x1), (2, .int x2), (3, .int x3), (4, .int x4), (5, .int x5), (6, .int x6), (7, .int x7)] [] M (F_X12_clerks_L71 x0 x1 x2 x3 x6 K188 n x4 x5 x7 M) := by
  intro n
  induction n with
  | zero => intro x4 x5 x7 M; exact ev_none
  | succ n ih =>
    intro x4 x5 x7 M
    show zEv l G Y_X12_clerks 4 0 71 [(0, .ref (G.2.1 + x0)), (1, .int x1), (2, .int x2), (3, .int x3), (4, .int x4), (5, .int x5), (6, .int x6), (7, .int x7)] [] M (zit ((M x0 1) ≤ x7) (K188 x4 x5 M) (F_X12_clerks_L86 x0 x1 x2 x3 x4 x5 x6 x7 (fun (y1 : Int32) (M13 : zM) => zjo (fun (w3 : Int32) (w4 : Int32) (M14 : zM) => F_X12_clerks_L71 x0 x1 x2 x3 x6 K188 n w3 w4 (x7 + 1) M14) (fun (k5 : Int32 → Int32 → zM → zO) => zit (y1 = 0) (k5 x4 x5 M13) (zit (x5 = (-1)) (zlt ((10 * x6) + x7) (fun v1 => k5 (x4 + 1) v1 M13)) (k5 (x4 + 1) x5 M13)))) zN 1 0 M))
    refine ev_iload dd_X12_clerks_71 7 rfl ?_
    refine ev_aload_n dd_X12_clerks_73 0 rfl ?_
    refine ev_getI gf_RX12_319 dd_X12_clerks_74 hx0 (by decide) ?_
    refine ev_icmp_ge 188 dd_X12_clerks_77 (by decide) ?_ ?_
    · refine ev_lv (lv' := [(0, .ref (G.2.1 + x0)), (1, .int x1), (2, .int x2), (3, .int x3), (4, .int x4), (5, .int x5), (6, .int x6)]) [0, 1, 2, 3, 4, 5, 6] rfl ?_
      exact hK188 _ _ _
    · refine ev_iconst (v := 1) dd_X12_clerks_80 (by decide) ?_
      refine ev_istore (i := 8) (lv' := [(0, .ref (G.2.1 + x0)), (1, .int x1), (2, .int x2), (3, .int x3), (4, .int x4), (5, .int x5), (6, .int x6), (7, .int x7), (8, .int 1)]) [1, 2, 3, 4, 5, 6, 7, 8, 0] dd_X12_clerks_81 (by decide) rfl ?_
      refine ev_iconst (v := 0) dd_X12_clerks_83 (by decide) ?_
      refine ev_istore (i := 9) (lv' := [(0, .ref (G.2.1 + x0)), (1, .int x1), (2, .int x2), (3, .int x3), (4, .int x4), (5, .int x5), (6, .int x6), (7, .int x7), (8, .int 1), (9, .int 0)]) [1, 2, 3, 4, 5, 6, 7, 8, 9, 0] dd_X12_clerks_84 (by decide) rfl ?_
      refine ct_X12_clerks_L86 l hl G x0 hx0 x1 x2 x3 x4 x5 x6 x7 _ (fun y1 M13 => ?_) zN _ _ _
      refine ev_iload dd_X12_clerks_155 8 rfl ?_
      refine ev_lv (lv' := [(0, .ref (G.2.1 + x0)), (1, .int x1), (2, .int x2), (3, .int x3), (4, .int x4), (5, .int x5), (6, .int x6), (7, .int x7)]) [0, 1, 2, 3, 4, 5, 6, 7] rfl ?_
      refine ev_jo (fun (k5 : Int32 → Int32 → zM → zO) => ∀ (w3 : Int32) (w4 : Int32) (M14 : zM), zEv l G Y_X12_clerks 4 0 182 [(0, .ref (G.2.1 + x0)), (1, .int x1), (2, .int x2), (3, .int x3), (4, .int w3), (5, .int w4), (6, .int x6), (7, .int x7)] [] M14 (k5 w3 w4 M14)) ?_ (fun k5 hk5 => ?_)
      · intro w3 w4 M14
        refine ev_iinc (j := 7) (v := 1) (lv' := [(0, .ref (G.2.1 + x0)), (1, .int x1), (2, .int x2), (3, .int x3), (4, .int w3), (5, .int w4), (6, .int x6), (7, .int (x7 + 1))]) [1, 2, 3, 4, 5, 6, 7, 0] dd_X12_clerks_182 rfl (by decide) (by decide) rfl ?_
        refine ev_goto 71 dd_X12_clerks_185 (by decide) ?_
        exact ih _ _ _ _
      · refine ev_if_ne 163 dd_X12_clerks_157 (by decide) ?_ ?_
        · refine ev_iinc (j := 4) (v := 1) (lv' := [(0, .ref (G.2.1 + x0)), (1, .int x1), (2, .int x2), (3, .int x3), (4, .int (x4 + 1)), (5, .int x5), (6, .int x6), (7, .int x7)]) [1, 2, 3, 4, 0, 5, 6, 7] dd_X12_clerks_163 rfl (by decide) (by decide) rfl ?_
          refine ev_iload dd_X12_clerks_166 5 rfl ?_
          refine ev_iconst (v := (-1)) dd_X12_clerks_168 (by decide) ?_
          refine ev_icmp_ne 182 dd_X12_clerks_169 (by decide) ?_ ?_
          · exact hk5 _ _ _
          · refine ev_lv (lv' := [(0, .ref (G.2.1 + x0)), (1, .int x1), (2, .int x2), (3, .int x3), (4, .int (x4 + 1)), (6, .int x6), (7, .int x7)]) [0, 1, 2, 3, 4, 6, 7] rfl ?_
            refine ev_bipush (v := 10) dd_X12_clerks_172 (by decide) ?_
            refine ev_iload dd_X12_clerks_174 5 rfl ?_
            refine ev_imul dd_X12_clerks_176 ?_
            refine ev_iload dd_X12_clerks_177 6 rfl ?_
            refine ev_iadd dd_X12_clerks_179 ?_
            refine ev_topi (fun v1 => ?_)
            refine ev_istore (i := 5) (lv' := [(0, .ref (G.2.1 + x0)), (1, .int x1), (2, .int x2), (3, .int x3), (4, .int (x4 + 1)), (5, .int v1), (6, .int x6), (7, .int x7)]) [1, 2, 3, 4, 5, 0, 6, 7] dd_X12_clerks_180 (by decide) rfl ?_
            exact hk5 _ _ _
        · refine ev_goto 182 dd_X12_clerks_160 (by decide) ?_
          exact hk5 _ _ _
set_option maxHeartbeats 1000000 in
set_option maxRecDepth 20000 in
theorem ct_X12_clerks_L59 (l : Launch) (hl : l.stackTraces = false) (G : zG) (x0 : Nat) (hx0 : zsh x0 = 12) (x1 : Int32) (x2 : Int32) (x3 : Int32) (K194 : Int32 → Int32 → zM → zO) (hK194 : ∀ (x4 : Int32) (x5 : Int32) (M : zM), zEv l G Y_X12_clerks 4 0 194 [(3, .int x3), (4, .int x4), (5, .int x5)] [] M (K194 x4 x5 M)) : ∀ (n : Nat) (x4 : Int32) (x5 : Int32) (x6 : Int32) (M : zM), zEv l G Y_X12_clerks 4 0 59 [(0, .ref (G.2.1 + x0)), (1, .int x1), (2, .int x2), (3, .int x3), (4, .int x4), (5, .int x5), (6, .int x6)] [] M (F_X12_clerks_L59 x0 x1 x2 x3 K194 n x4 x5 x6 M) := by
  intro n
  induction n with
  | zero => intro x4 x5 x6 M; exact ev_none
  | succ n ih =>
    intro x4 x5 x6 M
    show zEv l G Y_X12_clerks 4 0 59 [(0, .ref (G.2.1 + x0)), (1, .int x1), (2, .int x2), (3, .int x3), (4, .int x4), (5, .int x5), (6, .int x6)] [] M (zit ((M x0 1) ≤ x6) (K194 x4 x5 M) (F_X12_clerks_L71 x0 x1 x2 x3 x6 (fun (y2 : Int32) (y3 : Int32) (M15 : zM) => F_X12_clerks_L59 x0 x1 x2 x3 K194 n y2 y3 (x6 + 1) M15) zN x4 x5 0 M))
    refine ev_iload dd_X12_clerks_59 6 rfl ?_
    refine ev_aload_n dd_X12_clerks_61 0 rfl ?_
    refine ev_getI gf_RX12_319 dd_X12_clerks_62 hx0 (by decide) ?_
    refine ev_icmp_ge 194 dd_X12_clerks_65 (by decide) ?_ ?_
    · refine ev_lv (lv' := [(3, .int x3), (4, .int x4), (5, .int x5)]) [3, 4, 5] rfl ?_
      exact hK194 _ _ _
    · refine ev_iconst (v := 0) dd_X12_clerks_68 (by decide) ?_
      refine ev_istore (i := 7) (lv' := [(0, .ref (G.2.1 + x0)), (1, .int x1), (2, .int x2), (3, .int x3), (4, .int x4), (5, .int x5), (6, .int x6), (7, .int 0)]) [1, 2, 3, 4, 5, 6, 7, 0] dd_X12_clerks_69 (by decide) rfl ?_
      refine ct_X12_clerks_L71 l hl G x0 hx0 x1 x2 x3 x6 _ (fun y2 y3 M15 => ?_) zN _ _ _ _
      refine ev_iinc (j := 6) (v := 1) (lv' := [(0, .ref (G.2.1 + x0)), (1, .int x1), (2, .int x2), (3, .int x3), (4, .int y2), (5, .int y3), (6, .int (x6 + 1))]) [1, 2, 3, 4, 5, 6, 0] dd_X12_clerks_188 rfl (by decide) (by decide) rfl ?_
      refine ev_goto 59 dd_X12_clerks_191 (by decide) ?_
      exact ih _ _ _ _
set_option maxHeartbeats 1000000 in
set_option maxRecDepth 20000 in
theorem ct_X12_clerks (l : Launch) (hl : l.stackTraces = false) (G : zG) (t : Nat) (ht : zsh t = 12) (a1 : Int32) (a2 : Int32) (a3 : Int32) (M : zM) : zMt l G Y_X12_clerks 4 [.ref (G.2.1 + t), .int a1, .int a2, .int a3] M (F_X12_clerks t a1 a2 a3 M) := by
  refine zMt_of (by decide +kernel) (Nat.le_of_ble_eq_true rfl) ?_
  show zEv l G Y_X12_clerks 4 0 0 [(0, .ref (G.2.1 + t)), (1, .int a1), (2, .int a2), (3, .int a3)] [] M (zst (zup M t 0 0) (fun M1 => zbI (F_X12_isOne t a1 M1) (fun r1 M2 => zjo (fun  (M18 : zM) => zI 0 M18) (fun (k1 : zM → zO) => zit (r1 = 0) (k1 M2) (zbI (F_X12_isOne t a2 M2) (fun r2 M3 => zit (r2 = 0) (k1 M3) (zbI (F_X12_isWhat t a3 1 M3) (fun r3 M4 => zit (r3 = 0) (k1 M4) (zjo (fun (w1 : Int32) (M5 : zM) => zbI (F_X12_right t w1 2 M5) (fun r4 M6 => zit (r4 = 0) (k1 M6) (F_X12_clerks_L59 t a1 a2 a3 (fun (y4 : Int32) (y5 : Int32) (M16 : zM) => zjo (fun (w5 : Int32) (M17 : zM) => zI w5 M17) (fun (k6 : Int32 → zM → zO) => zit (a3 = 0) (k6 y4 M16) (k6 y5 M16))) zN 0 (-1) 0 M6))) (fun (k2 : Int32 → zM → zO) => zit (a1 = a2) (k2 0 M4) (k2 1 M4)))))))))))
  refine ev_aload_n dd_X12_clerks_0 0 rfl ?_
  refine ev_iconst (v := 0) dd_X12_clerks_1 (by decide) ?_
  refine ev_putI gw_RX12_153 dd_X12_clerks_2 ht (by decide) ?_
  refine ev_st (fun M1 => ?_)
  refine ev_aload_n dd_X12_clerks_5 0 rfl ?_
  refine ev_iload_n dd_X12_clerks_6 1 rfl ?_
  refine ev_callVI (As := [.int a1]) cl_RX12_346 (ct_X12_isOne l hl G t ht a1 M1) dd_X12_clerks_7 ht (by decide) (Nat.le_of_ble_eq_true rfl) (Nat.le_of_ble_eq_true rfl) rfl rfl (fun r1 M2 => ?_)
  refine ev_jo (fun (k1 : zM → zO) => ∀  (M18 : zM), zEv l G Y_X12_clerks 4 0 48 [] [] M18 (k1 M18)) ?_ (fun k1 hk1 => ?_)
  · intro M18
    refine ev_iconst (v := 0) dd_X12_clerks_48 (by decide) ?_
    exact ev_iret dd_X12_clerks_49 rfl (Nat.le_of_ble_eq_true rfl) rfl
  · refine ev_if_eq 48 dd_X12_clerks_10 (by decide) ?_ ?_
    · refine ev_lv (lv' := []) [] rfl ?_
      exact hk1 _
    · refine ev_aload_n dd_X12_clerks_13 0 rfl ?_
      refine ev_iload_n dd_X12_clerks_14 2 rfl ?_
      refine ev_callVI (As := [.int a2]) cl_RX12_346 (ct_X12_isOne l hl G t ht a2 M2) dd_X12_clerks_15 ht (by decide) (Nat.le_of_ble_eq_true rfl) (Nat.le_of_ble_eq_true rfl) rfl rfl (fun r2 M3 => ?_)
      refine ev_if_eq 48 dd_X12_clerks_18 (by decide) ?_ ?_
      · refine ev_lv (lv' := []) [] rfl ?_
        exact hk1 _
      · refine ev_aload_n dd_X12_clerks_21 0 rfl ?_
        refine ev_iload_n dd_X12_clerks_22 3 rfl ?_
        refine ev_iconst (v := 1) dd_X12_clerks_23 (by decide) ?_
        refine ev_callVI (As := [.int a3, .int 1]) cl_RX12_349 (ct_X12_isWhat l hl G t ht a3 1 M3) dd_X12_clerks_24 ht (by decide) (Nat.le_of_ble_eq_true rfl) (Nat.le_of_ble_eq_true rfl) rfl rfl (fun r3 M4 => ?_)
        refine ev_if_eq 48 dd_X12_clerks_27 (by decide) ?_ ?_
        · refine ev_lv (lv' := []) [] rfl ?_
          exact hk1 _
        · refine ev_aload_n dd_X12_clerks_30 0 rfl ?_
          refine ev_iload_n dd_X12_clerks_31 1 rfl ?_
          refine ev_iload_n dd_X12_clerks_32 2 rfl ?_
          refine ev_jo (fun (k2 : Int32 → zM → zO) => ∀ (w1 : Int32) (M5 : zM), zEv l G Y_X12_clerks 4 0 41 [(0, .ref (G.2.1 + t)), (1, .int a1), (2, .int a2), (3, .int a3)] [.int w1, .ref (G.2.1 + t)] M5 (k2 w1 M5)) ?_ (fun k2 hk2 => ?_)
          · intro w1 M5
            refine ev_iconst (v := 2) dd_X12_clerks_41 (by decide) ?_
            refine ev_callVI (As := [.int w1, .int 2]) cl_RX12_312 (ct_X12_right l hl G t ht w1 2 M5) dd_X12_clerks_42 ht (by decide) (Nat.le_of_ble_eq_true rfl) (Nat.le_of_ble_eq_true rfl) rfl rfl (fun r4 M6 => ?_)
            refine ev_if_ne 50 dd_X12_clerks_45 (by decide) ?_ ?_
            · refine ev_iconst (v := 0) dd_X12_clerks_50 (by decide) ?_
              refine ev_istore (i := 4) (lv' := [(0, .ref (G.2.1 + t)), (1, .int a1), (2, .int a2), (3, .int a3), (4, .int 0)]) [1, 2, 3, 4, 0] dd_X12_clerks_51 (by decide) rfl ?_
              refine ev_iconst (v := (-1)) dd_X12_clerks_53 (by decide) ?_
              refine ev_istore (i := 5) (lv' := [(0, .ref (G.2.1 + t)), (1, .int a1), (2, .int a2), (3, .int a3), (4, .int 0), (5, .int (-1))]) [1, 2, 3, 4, 5, 0] dd_X12_clerks_54 (by decide) rfl ?_
              refine ev_iconst (v := 0) dd_X12_clerks_56 (by decide) ?_
              refine ev_istore (i := 6) (lv' := [(0, .ref (G.2.1 + t)), (1, .int a1), (2, .int a2), (3, .int a3), (4, .int 0), (5, .int (-1)), (6, .int 0)]) [1, 2, 3, 4, 5, 6, 0] dd_X12_clerks_57 (by decide) rfl ?_
              refine ct_X12_clerks_L59 l hl G t ht a1 a2 a3 _ (fun y4 y5 M16 => ?_) zN _ _ _ _
              refine ev_iload_n dd_X12_clerks_194 0 rfl ?_
              refine ev_lv (lv' := [(4, .int y4), (5, .int y5)]) [1, 2] rfl ?_
              refine ev_jo (fun (k6 : Int32 → zM → zO) => ∀ (w5 : Int32) (M17 : zM), zEv l G Y_X12_clerks 4 0 205 [] [.int w5] M17 (k6 w5 M17)) ?_ (fun k6 hk6 => ?_)
              · intro w5 M17
                exact ev_iret dd_X12_clerks_205 rfl (Nat.le_of_ble_eq_true rfl) rfl
              · refine ev_if_ne 203 dd_X12_clerks_195 (by decide) ?_ ?_
                · refine ev_lv (lv' := [(5, .int y5)]) [1] rfl ?_
                  refine ev_iload dd_X12_clerks_203 0 rfl ?_
                  refine ev_lv (lv' := []) [] rfl ?_
                  exact hk6 _ _
                · refine ev_lv (lv' := [(4, .int y4)]) [0] rfl ?_
                  refine ev_iload dd_X12_clerks_198 0 rfl ?_
                  refine ev_lv (lv' := []) [] rfl ?_
                  refine ev_goto 205 dd_X12_clerks_200 (by decide) ?_
                  exact hk6 _ _
            · refine ev_lv (lv' := []) [] rfl ?_
              exact hk1 _
          · refine ev_icmp_eq 40 dd_X12_clerks_33 (by decide) ?_ ?_
            · refine ev_iconst (v := 0) dd_X12_clerks_40 (by decide) ?_
              exact hk2 _ _
            · refine ev_iconst (v := 1) dd_X12_clerks_36 (by decide) ?_
              refine ev_goto 41 dd_X12_clerks_37 (by decide) ?_
              exact hk2 _ _
/-! X12_isOpen -/
theorem dd_X12_isOpen_0 : decode Y_X12_isOpen.2.1 0 = .ok (.iload_n 0, 1) := by decide +kernel
theorem dd_X12_isOpen_1 : decode Y_X12_isOpen.2.1 1 = .ok (.bipush 14, 2) := by decide +kernel
theorem dd_X12_isOpen_3 : decode Y_X12_isOpen.2.1 3 = .ok (.if_icmp .lt 7, 3) := by decide +kernel
theorem dd_X12_isOpen_6 : decode Y_X12_isOpen.2.1 6 = .ok (.iconst 1, 1) := by decide +kernel
theorem dd_X12_isOpen_7 : decode Y_X12_isOpen.2.1 7 = .ok (.goto 4, 3) := by decide +kernel
theorem dd_X12_isOpen_10 : decode Y_X12_isOpen.2.1 10 = .ok (.iconst 0, 1) := by decide +kernel
theorem dd_X12_isOpen_11 : decode Y_X12_isOpen.2.1 11 = .ok (.ireturn, 1) := by decide +kernel
def F_X12_isOpen (a0 : Int32) (M : zM) : zO := zjo (fun (w1 : Int32) (M1 : zM) => zck (zbo w1) (zI w1 M1)) (fun (k1 : Int32 → zM → zO) => zit (a0 < 14) (k1 0 M) (k1 1 M))
set_option maxHeartbeats 1000000 in
set_option maxRecDepth 20000 in
theorem ct_X12_isOpen (l : Launch) (hl : l.stackTraces = false) (G : zG) (a0 : Int32) (M : zM) : zMt l G Y_X12_isOpen 1 [.int a0] M (F_X12_isOpen a0 M) := by
  refine zMt_of (by decide +kernel) (Nat.le_of_ble_eq_true rfl) ?_
  show zEv l G Y_X12_isOpen 1 0 0 [(0, .int a0)] [] M (zjo (fun (w1 : Int32) (M1 : zM) => zck (zbo w1) (zI w1 M1)) (fun (k1 : Int32 → zM → zO) => zit (a0 < 14) (k1 0 M) (k1 1 M)))
  refine ev_iload_n dd_X12_isOpen_0 0 rfl ?_
  refine ev_lv (lv' := []) [] rfl ?_
  refine ev_bipush (v := 14) dd_X12_isOpen_1 (by decide) ?_
  refine ev_jo (fun (k1 : Int32 → zM → zO) => ∀ (w1 : Int32) (M1 : zM), zEv l G Y_X12_isOpen 1 0 11 [] [.int w1] M1 (k1 w1 M1)) ?_ (fun k1 hk1 => ?_)
  · intro w1 M1
    exact ev_zret dd_X12_isOpen_11 rfl (Nat.le_of_ble_eq_true rfl) rfl
  · refine ev_icmp_lt 10 dd_X12_isOpen_3 (by decide) ?_ ?_
    · refine ev_iconst (v := 0) dd_X12_isOpen_10 (by decide) ?_
      exact hk1 _ _
    · refine ev_iconst (v := 1) dd_X12_isOpen_6 (by decide) ?_
      refine ev_goto 11 dd_X12_isOpen_7 (by decide) ?_
      exact hk1 _ _
/-! X12_puts -/
theorem dd_X12_puts_0 : decode Y_X12_puts.2.1 0 = .ok (.aload_n 0, 1) := by decide +kernel
theorem dd_X12_puts_1 : decode Y_X12_puts.2.1 1 = .ok (.getfield 77, 3) := by decide +kernel
theorem dd_X12_puts_4 : decode Y_X12_puts.2.1 4 = .ok (.aload_n 0, 1) := by decide +kernel
theorem dd_X12_puts_5 : decode Y_X12_puts.2.1 5 = .ok (.getfield 225, 3) := by decide +kernel
theorem dd_X12_puts_8 : decode Y_X12_puts.2.1 8 = .ok (.iload_n 1, 1) := by decide +kernel
theorem dd_X12_puts_9 : decode Y_X12_puts.2.1 9 = .ok (.iastore, 1) := by decide +kernel
theorem dd_X12_puts_10 : decode Y_X12_puts.2.1 10 = .ok (.aload_n 0, 1) := by decide +kernel
theorem dd_X12_puts_11 : decode Y_X12_puts.2.1 11 = .ok (.dup, 1) := by decide +kernel
theorem dd_X12_puts_12 : decode Y_X12_puts.2.1 12 = .ok (.getfield 225, 3) := by decide +kernel
theorem dd_X12_puts_15 : decode Y_X12_puts.2.1 15 = .ok (.iconst 1, 1) := by decide +kernel
theorem dd_X12_puts_16 : decode Y_X12_puts.2.1 16 = .ok (.iadd, 1) := by decide +kernel
theorem dd_X12_puts_17 : decode Y_X12_puts.2.1 17 = .ok (.putfield 225, 3) := by decide +kernel
theorem dd_X12_puts_20 : decode Y_X12_puts.2.1 20 = .ok (.return_, 1) := by decide +kernel
def F_X12_puts (t : Nat) (a1 : Int32) (M : zM) : zO := zck (zin (M t 33) 1900) (zst (zup M (zgr t 44) (zix (M t 33)) a1) (fun M1 => zst (zup M1 t 33 ((M1 t 33) + 1)) (fun M2 => zV M2)))
set_option maxHeartbeats 1000000 in
set_option maxRecDepth 20000 in
theorem ct_X12_puts (l : Launch) (hl : l.stackTraces = false) (G : zG) (t : Nat) (ht : zsh t = 12) (a1 : Int32) (M : zM) : zMt l G Y_X12_puts 1 [.ref (G.2.1 + t), .int a1] M (F_X12_puts t a1 M) := by
  refine zMt_of (by decide +kernel) (Nat.le_of_ble_eq_true rfl) ?_
  show zEv l G Y_X12_puts 1 0 0 [(0, .ref (G.2.1 + t)), (1, .int a1)] [] M (zck (zin (M t 33) 1900) (zst (zup M (zgr t 44) (zix (M t 33)) a1) (fun M1 => zst (zup M1 t 33 ((M1 t 33) + 1)) (fun M2 => zV M2))))
  refine ev_aload_n dd_X12_puts_0 0 rfl ?_
  refine ev_getR gf_RX12_77 dd_X12_puts_1 ht (by decide) ?_
  refine ev_aload_n dd_X12_puts_4 0 rfl ?_
  refine ev_getI gf_RX12_225 dd_X12_puts_5 ht (by decide) ?_
  refine ev_iload_n dd_X12_puts_8 1 rfl ?_
  refine ev_lv (lv' := [(0, .ref (G.2.1 + t))]) [0] rfl ?_
  refine ev_iast dd_X12_puts_9 ((zg_12_44 ht).1) ((zg_12_44 ht).2) ?_
  refine ev_st (fun M1 => ?_)
  refine ev_aload_n dd_X12_puts_10 0 rfl ?_
  refine ev_lv (lv' := []) [] rfl ?_
  refine ev_dup dd_X12_puts_11 rfl ?_
  refine ev_getI gf_RX12_225 dd_X12_puts_12 ht (by decide) ?_
  refine ev_iconst (v := 1) dd_X12_puts_15 (by decide) ?_
  refine ev_iadd dd_X12_puts_16 ?_
  refine ev_putI gw_RX12_225 dd_X12_puts_17 ht (by decide) ?_
  refine ev_st (fun M2 => ?_)
  exact ev_vret dd_X12_puts_20 rfl (Nat.le_of_ble_eq_true rfl) rfl
/-! X12_strength -/
theorem dd_X12_strength_0 : decode Y_X12_strength.2.1 0 = .ok (.iload_n 0, 1) := by decide +kernel
theorem dd_X12_strength_1 : decode Y_X12_strength.2.1 1 = .ok (.iconst 5, 1) := by decide +kernel
theorem dd_X12_strength_2 : decode Y_X12_strength.2.1 2 = .ok (.if_icmp .ne 7, 3) := by decide +kernel
theorem dd_X12_strength_5 : decode Y_X12_strength.2.1 5 = .ok (.iconst 1, 1) := by decide +kernel
theorem dd_X12_strength_6 : decode Y_X12_strength.2.1 6 = .ok (.goto 55, 3) := by decide +kernel
theorem dd_X12_strength_9 : decode Y_X12_strength.2.1 9 = .ok (.iload_n 0, 1) := by decide +kernel
theorem dd_X12_strength_10 : decode Y_X12_strength.2.1 10 = .ok (.iconst 4, 1) := by decide +kernel
theorem dd_X12_strength_11 : decode Y_X12_strength.2.1 11 = .ok (.if_icmp .ne 7, 3) := by decide +kernel
theorem dd_X12_strength_14 : decode Y_X12_strength.2.1 14 = .ok (.iconst 2, 1) := by decide +kernel
theorem dd_X12_strength_15 : decode Y_X12_strength.2.1 15 = .ok (.goto 46, 3) := by decide +kernel
theorem dd_X12_strength_18 : decode Y_X12_strength.2.1 18 = .ok (.iload_n 0, 1) := by decide +kernel
theorem dd_X12_strength_19 : decode Y_X12_strength.2.1 19 = .ok (.iconst 3, 1) := by decide +kernel
theorem dd_X12_strength_20 : decode Y_X12_strength.2.1 20 = .ok (.if_icmp .ne 7, 3) := by decide +kernel
theorem dd_X12_strength_23 : decode Y_X12_strength.2.1 23 = .ok (.iconst 3, 1) := by decide +kernel
theorem dd_X12_strength_24 : decode Y_X12_strength.2.1 24 = .ok (.goto 37, 3) := by decide +kernel
theorem dd_X12_strength_27 : decode Y_X12_strength.2.1 27 = .ok (.iload_n 0, 1) := by decide +kernel
theorem dd_X12_strength_28 : decode Y_X12_strength.2.1 28 = .ok (.bipush 6, 2) := by decide +kernel
theorem dd_X12_strength_30 : decode Y_X12_strength.2.1 30 = .ok (.if_icmp .eq 9, 3) := by decide +kernel
theorem dd_X12_strength_33 : decode Y_X12_strength.2.1 33 = .ok (.iload_n 0, 1) := by decide +kernel
theorem dd_X12_strength_34 : decode Y_X12_strength.2.1 34 = .ok (.bipush 7, 2) := by decide +kernel
theorem dd_X12_strength_36 : decode Y_X12_strength.2.1 36 = .ok (.if_icmp .ne 7, 3) := by decide +kernel
theorem dd_X12_strength_39 : decode Y_X12_strength.2.1 39 = .ok (.iconst 4, 1) := by decide +kernel
theorem dd_X12_strength_40 : decode Y_X12_strength.2.1 40 = .ok (.goto 21, 3) := by decide +kernel
theorem dd_X12_strength_43 : decode Y_X12_strength.2.1 43 = .ok (.iload_n 0, 1) := by decide +kernel
theorem dd_X12_strength_44 : decode Y_X12_strength.2.1 44 = .ok (.bipush 8, 2) := by decide +kernel
theorem dd_X12_strength_46 : decode Y_X12_strength.2.1 46 = .ok (.if_icmp .eq 9, 3) := by decide +kernel
theorem dd_X12_strength_49 : decode Y_X12_strength.2.1 49 = .ok (.iload_n 0, 1) := by decide +kernel
theorem dd_X12_strength_50 : decode Y_X12_strength.2.1 50 = .ok (.bipush 9, 2) := by decide +kernel
theorem dd_X12_strength_52 : decode Y_X12_strength.2.1 52 = .ok (.if_icmp .ne 7, 3) := by decide +kernel
theorem dd_X12_strength_55 : decode Y_X12_strength.2.1 55 = .ok (.iconst 5, 1) := by decide +kernel
theorem dd_X12_strength_56 : decode Y_X12_strength.2.1 56 = .ok (.goto 5, 3) := by decide +kernel
theorem dd_X12_strength_59 : decode Y_X12_strength.2.1 59 = .ok (.bipush 6, 2) := by decide +kernel
theorem dd_X12_strength_61 : decode Y_X12_strength.2.1 61 = .ok (.ireturn, 1) := by decide +kernel
def F_X12_strength (a0 : Int32) (M : zM) : zO := zjo (fun (w1 : Int32) (M3 : zM) => zI w1 M3) (fun (k1 : Int32 → zM → zO) => zit (a0 = 5) (k1 1 M) (zit (a0 = 4) (k1 2 M) (zit (a0 = 3) (k1 3 M) (zjo (fun  (M2 : zM) => k1 4 M2) (fun (k2 : zM → zO) => zit (a0 = 6) (k2 M) (zit (a0 = 7) (k2 M) (zjo (fun  (M1 : zM) => k1 5 M1) (fun (k3 : zM → zO) => zit (a0 = 8) (k3 M) (zit (a0 = 9) (k3 M) (k1 6 M))))))))))
set_option maxHeartbeats 1000000 in
set_option maxRecDepth 20000 in
theorem ct_X12_strength (l : Launch) (hl : l.stackTraces = false) (G : zG) (a0 : Int32) (M : zM) : zMt l G Y_X12_strength 1 [.int a0] M (F_X12_strength a0 M) := by
  refine zMt_of (by decide +kernel) (Nat.le_of_ble_eq_true rfl) ?_
  show zEv l G Y_X12_strength 1 0 0 [(0, .int a0)] [] M (zjo (fun (w1 : Int32) (M3 : zM) => zI w1 M3) (fun (k1 : Int32 → zM → zO) => zit (a0 = 5) (k1 1 M) (zit (a0 = 4) (k1 2 M) (zit (a0 = 3) (k1 3 M) (zjo (fun  (M2 : zM) => k1 4 M2) (fun (k2 : zM → zO) => zit (a0 = 6) (k2 M) (zit (a0 = 7) (k2 M) (zjo (fun  (M1 : zM) => k1 5 M1) (fun (k3 : zM → zO) => zit (a0 = 8) (k3 M) (zit (a0 = 9) (k3 M) (k1 6 M)))))))))))
  refine ev_iload_n dd_X12_strength_0 0 rfl ?_
  refine ev_iconst (v := 5) dd_X12_strength_1 (by decide) ?_
  refine ev_jo (fun (k1 : Int32 → zM → zO) => ∀ (w1 : Int32) (M3 : zM), zEv l G Y_X12_strength 1 0 61 [] [.int w1] M3 (k1 w1 M3)) ?_ (fun k1 hk1 => ?_)
  · intro w1 M3
    exact ev_iret dd_X12_strength_61 rfl (Nat.le_of_ble_eq_true rfl) rfl
  · refine ev_icmp_ne 9 dd_X12_strength_2 (by decide) ?_ ?_
    · refine ev_iload_n dd_X12_strength_9 0 rfl ?_
      refine ev_iconst (v := 4) dd_X12_strength_10 (by decide) ?_
      refine ev_icmp_ne 18 dd_X12_strength_11 (by decide) ?_ ?_
      · refine ev_iload_n dd_X12_strength_18 0 rfl ?_
        refine ev_iconst (v := 3) dd_X12_strength_19 (by decide) ?_
        refine ev_icmp_ne 27 dd_X12_strength_20 (by decide) ?_ ?_
        · refine ev_iload_n dd_X12_strength_27 0 rfl ?_
          refine ev_bipush (v := 6) dd_X12_strength_28 (by decide) ?_
          refine ev_jo (fun (k2 : zM → zO) => ∀  (M2 : zM), zEv l G Y_X12_strength 1 0 39 [] [] M2 (k2 M2)) ?_ (fun k2 hk2 => ?_)
          · intro M2
            refine ev_iconst (v := 4) dd_X12_strength_39 (by decide) ?_
            refine ev_goto 61 dd_X12_strength_40 (by decide) ?_
            exact hk1 _ _
          · refine ev_icmp_eq 39 dd_X12_strength_30 (by decide) ?_ ?_
            · refine ev_lv (lv' := []) [] rfl ?_
              exact hk2 _
            · refine ev_iload_n dd_X12_strength_33 0 rfl ?_
              refine ev_bipush (v := 7) dd_X12_strength_34 (by decide) ?_
              refine ev_icmp_ne 43 dd_X12_strength_36 (by decide) ?_ ?_
              · refine ev_iload_n dd_X12_strength_43 0 rfl ?_
                refine ev_bipush (v := 8) dd_X12_strength_44 (by decide) ?_
                refine ev_jo (fun (k3 : zM → zO) => ∀  (M1 : zM), zEv l G Y_X12_strength 1 0 55 [] [] M1 (k3 M1)) ?_ (fun k3 hk3 => ?_)
                · intro M1
                  refine ev_iconst (v := 5) dd_X12_strength_55 (by decide) ?_
                  refine ev_goto 61 dd_X12_strength_56 (by decide) ?_
                  exact hk1 _ _
                · refine ev_icmp_eq 55 dd_X12_strength_46 (by decide) ?_ ?_
                  · refine ev_lv (lv' := []) [] rfl ?_
                    exact hk3 _
                  · refine ev_iload_n dd_X12_strength_49 0 rfl ?_
                    refine ev_lv (lv' := []) [] rfl ?_
                    refine ev_bipush (v := 9) dd_X12_strength_50 (by decide) ?_
                    refine ev_icmp_ne 59 dd_X12_strength_52 (by decide) ?_ ?_
                    · refine ev_bipush (v := 6) dd_X12_strength_59 (by decide) ?_
                      exact hk1 _ _
                    · exact hk3 _
              · refine ev_lv (lv' := []) [] rfl ?_
                exact hk2 _
        · refine ev_lv (lv' := []) [] rfl ?_
          refine ev_iconst (v := 3) dd_X12_strength_23 (by decide) ?_
          refine ev_goto 61 dd_X12_strength_24 (by decide) ?_
          exact hk1 _ _
      · refine ev_lv (lv' := []) [] rfl ?_
        refine ev_iconst (v := 2) dd_X12_strength_14 (by decide) ?_
        refine ev_goto 61 dd_X12_strength_15 (by decide) ?_
        exact hk1 _ _
    · refine ev_lv (lv' := []) [] rfl ?_
      refine ev_iconst (v := 1) dd_X12_strength_5 (by decide) ?_
      refine ev_goto 61 dd_X12_strength_6 (by decide) ?_
      exact hk1 _ _
/-! X12_drops -/
theorem dd_X12_drops_0 : decode Y_X12_drops.2.1 0 = .ok (.aload_n 0, 1) := by decide +kernel
theorem dd_X12_drops_1 : decode Y_X12_drops.2.1 1 = .ok (.getfield 228, 3) := by decide +kernel
theorem dd_X12_drops_4 : decode Y_X12_drops.2.1 4 = .ok (.ifCond .le 64, 3) := by decide +kernel
theorem dd_X12_drops_7 : decode Y_X12_drops.2.1 7 = .ok (.aload_n 0, 1) := by decide +kernel
theorem dd_X12_drops_8 : decode Y_X12_drops.2.1 8 = .ok (.getfield 80, 3) := by decide +kernel
theorem dd_X12_drops_11 : decode Y_X12_drops.2.1 11 = .ok (.aload_n 0, 1) := by decide +kernel
theorem dd_X12_drops_12 : decode Y_X12_drops.2.1 12 = .ok (.getfield 228, 3) := by decide +kernel
theorem dd_X12_drops_15 : decode Y_X12_drops.2.1 15 = .ok (.iconst 1, 1) := by decide +kernel
theorem dd_X12_drops_16 : decode Y_X12_drops.2.1 16 = .ok (.isub, 1) := by decide +kernel
theorem dd_X12_drops_17 : decode Y_X12_drops.2.1 17 = .ok (.iaload, 1) := by decide +kernel
theorem dd_X12_drops_18 : decode Y_X12_drops.2.1 18 = .ok (.invokestatic 231, 3) := by decide +kernel
theorem dd_X12_drops_21 : decode Y_X12_drops.2.1 21 = .ok (.ifCond .ne 47, 3) := by decide +kernel
theorem dd_X12_drops_24 : decode Y_X12_drops.2.1 24 = .ok (.aload_n 0, 1) := by decide +kernel
theorem dd_X12_drops_25 : decode Y_X12_drops.2.1 25 = .ok (.getfield 80, 3) := by decide +kernel
theorem dd_X12_drops_28 : decode Y_X12_drops.2.1 28 = .ok (.aload_n 0, 1) := by decide +kernel
theorem dd_X12_drops_29 : decode Y_X12_drops.2.1 29 = .ok (.getfield 228, 3) := by decide +kernel
theorem dd_X12_drops_32 : decode Y_X12_drops.2.1 32 = .ok (.iconst 1, 1) := by decide +kernel
theorem dd_X12_drops_33 : decode Y_X12_drops.2.1 33 = .ok (.isub, 1) := by decide +kernel
theorem dd_X12_drops_34 : decode Y_X12_drops.2.1 34 = .ok (.iaload, 1) := by decide +kernel
theorem dd_X12_drops_35 : decode Y_X12_drops.2.1 35 = .ok (.invokestatic 234, 3) := by decide +kernel
theorem dd_X12_drops_38 : decode Y_X12_drops.2.1 38 = .ok (.iload_n 1, 1) := by decide +kernel
theorem dd_X12_drops_39 : decode Y_X12_drops.2.1 39 = .ok (.if_icmp .lt 29, 3) := by decide +kernel
theorem dd_X12_drops_42 : decode Y_X12_drops.2.1 42 = .ok (.aload_n 0, 1) := by decide +kernel
theorem dd_X12_drops_43 : decode Y_X12_drops.2.1 43 = .ok (.dup, 1) := by decide +kernel
theorem dd_X12_drops_44 : decode Y_X12_drops.2.1 44 = .ok (.getfield 228, 3) := by decide +kernel
theorem dd_X12_drops_47 : decode Y_X12_drops.2.1 47 = .ok (.iconst 1, 1) := by decide +kernel
theorem dd_X12_drops_48 : decode Y_X12_drops.2.1 48 = .ok (.isub, 1) := by decide +kernel
theorem dd_X12_drops_49 : decode Y_X12_drops.2.1 49 = .ok (.putfield 228, 3) := by decide +kernel
theorem dd_X12_drops_52 : decode Y_X12_drops.2.1 52 = .ok (.aload_n 0, 1) := by decide +kernel
theorem dd_X12_drops_53 : decode Y_X12_drops.2.1 53 = .ok (.aload_n 0, 1) := by decide +kernel
theorem dd_X12_drops_54 : decode Y_X12_drops.2.1 54 = .ok (.getfield 80, 3) := by decide +kernel
theorem dd_X12_drops_57 : decode Y_X12_drops.2.1 57 = .ok (.aload_n 0, 1) := by decide +kernel
theorem dd_X12_drops_58 : decode Y_X12_drops.2.1 58 = .ok (.getfield 228, 3) := by decide +kernel
theorem dd_X12_drops_61 : decode Y_X12_drops.2.1 61 = .ok (.iaload, 1) := by decide +kernel
theorem dd_X12_drops_62 : decode Y_X12_drops.2.1 62 = .ok (.invokevirtual 237, 3) := by decide +kernel
theorem dd_X12_drops_65 : decode Y_X12_drops.2.1 65 = .ok (.goto (-65), 3) := by decide +kernel
theorem dd_X12_drops_68 : decode Y_X12_drops.2.1 68 = .ok (.return_, 1) := by decide +kernel
def F_X12_drops_L0 (x0 : Nat) (x1 : Int32) (K68 : zM → zO) : Nat → zM → zO
  | 0, _ => none
  | n + 1, M => zit ((M x0 34) ≤ 0) (K68 M) (zck (zin ((M x0 34) - 1) 950) (zbI (F_X12_isOpen (M (zgr x0 45) (zix ((M x0 34) - 1))) M) (fun r1 M1 => zit (r1 = 0) (zck (zin ((M1 x0 34) - 1) 950) (zbI (F_X12_strength (M1 (zgr x0 45) (zix ((M1 x0 34) - 1))) M1) (fun r2 M2 => zit (r2 < x1) (K68 M2) (zst (zup M2 x0 34 ((M2 x0 34) - 1)) (fun M3 => zck (zin (M3 x0 34) 950) (zbV (F_X12_puts x0 (M3 (zgr x0 45) (zix (M3 x0 34))) M3) (fun M4 => F_X12_drops_L0 x0 x1 K68 n M4))))))) (K68 M1))))
def F_X12_drops (t : Nat) (a1 : Int32) (M : zM) : zO := F_X12_drops_L0 t a1 (fun  (M5 : zM) => zV M5) zN M
set_option maxHeartbeats 1000000 in
set_option maxRecDepth 20000 in
theorem ct_X12_drops_L0 (l : Launch) (hl : l.stackTraces = false) (G : zG) (x0 : Nat) (hx0 : zsh x0 = 12) (x1 : Int32) (K68 : zM → zO) (hK68 : ∀  (M : zM), zEv l G Y_X12_drops 2 0 68 [] [] M (K68 M)) : ∀ (n : Nat)  (M : zM), zEv l G Y_X12_drops 2 0 0 [(0, .ref (G.2.1 + x0)), (1, .int x1)] [] M (F_X12_drops_L0 x0 x1 K68 n M) := by
  intro n
  induction n with
  | zero => intro M; exact ev_none
  | succ n ih =>
    intro M
    show zEv l G Y_X12_drops 2 0 0 [(0, .ref (G.2.1 + x0)), (1, .int x1)] [] M (zit ((M x0 34) ≤ 0) (K68 M) (zck (zin ((M x0 34) - 1) 950) (zbI (F_X12_isOpen (M (zgr x0 45) (zix ((M x0 34) - 1))) M) (fun r1 M1 => zit (r1 = 0) (zck (zin ((M1 x0 34) - 1) 950) (zbI (F_X12_strength (M1 (zgr x0 45) (zix ((M1 x0 34) - 1))) M1) (fun r2 M2 => zit (r2 < x1) (K68 M2) (zst (zup M2 x0 34 ((M2 x0 34) - 1)) (fun M3 => zck (zin (M3 x0 34) 950) (zbV (F_X12_puts x0 (M3 (zgr x0 45) (zix (M3 x0 34))) M3) (fun M4 => F_X12_drops_L0 x0 x1 K68 n M4))))))) (K68 M1)))))
    refine ev_aload_n dd_X12_drops_0 0 rfl ?_
    refine ev_getI gf_RX12_228 dd_X12_drops_1 hx0 (by decide) ?_
    refine ev_if_le 68 dd_X12_drops_4 (by decide) ?_ ?_
    · refine ev_lv (lv' := []) [] rfl ?_
      exact hK68 _
    · refine ev_aload_n dd_X12_drops_7 0 rfl ?_
      refine ev_getR gf_RX12_80 dd_X12_drops_8 hx0 (by decide) ?_
      refine ev_aload_n dd_X12_drops_11 0 rfl ?_
      refine ev_getI gf_RX12_228 dd_X12_drops_12 hx0 (by decide) ?_
      refine ev_iconst (v := 1) dd_X12_drops_15 (by decide) ?_
      refine ev_isub dd_X12_drops_16 ?_
      refine ev_iald dd_X12_drops_17 ((zg_12_45 hx0).1) ((zg_12_45 hx0).2) ?_
      refine ev_callSI (As := [.int (M (zgr x0 45) (zix ((M x0 34) - 1)))]) cl_RX12_231 (ct_X12_isOpen l hl G (M (zgr x0 45) (zix ((M x0 34) - 1))) M) dd_X12_drops_18 (by decide) (Nat.le_of_ble_eq_true rfl) (Nat.le_of_ble_eq_true rfl) rfl rfl (fun r1 M1 => ?_)
      refine ev_if_ne 68 dd_X12_drops_21 (by decide) ?_ ?_
      · refine ev_lv (lv' := []) [] rfl ?_
        exact hK68 _
      · refine ev_aload_n dd_X12_drops_24 0 rfl ?_
        refine ev_getR gf_RX12_80 dd_X12_drops_25 hx0 (by decide) ?_
        refine ev_aload_n dd_X12_drops_28 0 rfl ?_
        refine ev_getI gf_RX12_228 dd_X12_drops_29 hx0 (by decide) ?_
        refine ev_iconst (v := 1) dd_X12_drops_32 (by decide) ?_
        refine ev_isub dd_X12_drops_33 ?_
        refine ev_iald dd_X12_drops_34 ((zg_12_45 hx0).1) ((zg_12_45 hx0).2) ?_
        refine ev_callSI (As := [.int (M1 (zgr x0 45) (zix ((M1 x0 34) - 1)))]) cl_RX12_234 (ct_X12_strength l hl G (M1 (zgr x0 45) (zix ((M1 x0 34) - 1))) M1) dd_X12_drops_35 (by decide) (Nat.le_of_ble_eq_true rfl) (Nat.le_of_ble_eq_true rfl) rfl rfl (fun r2 M2 => ?_)
        refine ev_iload_n dd_X12_drops_38 1 rfl ?_
        refine ev_icmp_lt 68 dd_X12_drops_39 (by decide) ?_ ?_
        · refine ev_lv (lv' := []) [] rfl ?_
          exact hK68 _
        · refine ev_aload_n dd_X12_drops_42 0 rfl ?_
          refine ev_dup dd_X12_drops_43 rfl ?_
          refine ev_getI gf_RX12_228 dd_X12_drops_44 hx0 (by decide) ?_
          refine ev_iconst (v := 1) dd_X12_drops_47 (by decide) ?_
          refine ev_isub dd_X12_drops_48 ?_
          refine ev_putI gw_RX12_228 dd_X12_drops_49 hx0 (by decide) ?_
          refine ev_st (fun M3 => ?_)
          refine ev_aload_n dd_X12_drops_52 0 rfl ?_
          refine ev_aload_n dd_X12_drops_53 0 rfl ?_
          refine ev_getR gf_RX12_80 dd_X12_drops_54 hx0 (by decide) ?_
          refine ev_aload_n dd_X12_drops_57 0 rfl ?_
          refine ev_getI gf_RX12_228 dd_X12_drops_58 hx0 (by decide) ?_
          refine ev_iald dd_X12_drops_61 ((zg_12_45 hx0).1) ((zg_12_45 hx0).2) ?_
          refine ev_callVV (As := [.int (M3 (zgr x0 45) (zix (M3 x0 34)))]) cl_RX12_237 (ct_X12_puts l hl G x0 hx0 (M3 (zgr x0 45) (zix (M3 x0 34))) M3) dd_X12_drops_62 hx0 (by decide) (Nat.le_of_ble_eq_true rfl) (Nat.le_of_ble_eq_true rfl) rfl rfl (fun M4 => ?_)
          refine ev_goto 0 dd_X12_drops_65 (by decide) ?_
          exact ih _
set_option maxHeartbeats 1000000 in
set_option maxRecDepth 20000 in
theorem ct_X12_drops (l : Launch) (hl : l.stackTraces = false) (G : zG) (t : Nat) (ht : zsh t = 12) (a1 : Int32) (M : zM) : zMt l G Y_X12_drops 2 [.ref (G.2.1 + t), .int a1] M (F_X12_drops t a1 M) := by
  refine zMt_of (by decide +kernel) (Nat.le_of_ble_eq_true rfl) ?_
  show zEv l G Y_X12_drops 2 0 0 [(0, .ref (G.2.1 + t)), (1, .int a1)] [] M (F_X12_drops_L0 t a1 (fun  (M5 : zM) => zV M5) zN M)
  refine ct_X12_drops_L0 l hl G t ht a1 _ (fun M5 => ?_) zN _
  exact ev_vret dd_X12_drops_68 rfl (Nat.le_of_ble_eq_true rfl) rfl
/-! X12_isDigit -/
theorem dd_X12_isDigit_0 : decode Y_X12_isDigit.2.1 0 = .ok (.iload_n 0, 1) := by decide +kernel
theorem dd_X12_isDigit_1 : decode Y_X12_isDigit.2.1 1 = .ok (.bipush 48, 2) := by decide +kernel
theorem dd_X12_isDigit_3 : decode Y_X12_isDigit.2.1 3 = .ok (.if_icmp .lt 13, 3) := by decide +kernel
theorem dd_X12_isDigit_6 : decode Y_X12_isDigit.2.1 6 = .ok (.iload_n 0, 1) := by decide +kernel
theorem dd_X12_isDigit_7 : decode Y_X12_isDigit.2.1 7 = .ok (.bipush 57, 2) := by decide +kernel
theorem dd_X12_isDigit_9 : decode Y_X12_isDigit.2.1 9 = .ok (.if_icmp .gt 7, 3) := by decide +kernel
theorem dd_X12_isDigit_12 : decode Y_X12_isDigit.2.1 12 = .ok (.iconst 1, 1) := by decide +kernel
theorem dd_X12_isDigit_13 : decode Y_X12_isDigit.2.1 13 = .ok (.goto 4, 3) := by decide +kernel
theorem dd_X12_isDigit_16 : decode Y_X12_isDigit.2.1 16 = .ok (.iconst 0, 1) := by decide +kernel
theorem dd_X12_isDigit_17 : decode Y_X12_isDigit.2.1 17 = .ok (.ireturn, 1) := by decide +kernel
def F_X12_isDigit (a0 : Int32) (M : zM) : zO := zjo (fun (w1 : Int32) (M2 : zM) => zck (zbo w1) (zI w1 M2)) (fun (k1 : Int32 → zM → zO) => zjo (fun  (M1 : zM) => k1 0 M1) (fun (k2 : zM → zO) => zit (a0 < 48) (k2 M) (zit (57 < a0) (k2 M) (k1 1 M))))
set_option maxHeartbeats 1000000 in
set_option maxRecDepth 20000 in
theorem ct_X12_isDigit (l : Launch) (hl : l.stackTraces = false) (G : zG) (a0 : Int32) (M : zM) : zMt l G Y_X12_isDigit 1 [.int a0] M (F_X12_isDigit a0 M) := by
  refine zMt_of (by decide +kernel) (Nat.le_of_ble_eq_true rfl) ?_
  show zEv l G Y_X12_isDigit 1 0 0 [(0, .int a0)] [] M (zjo (fun (w1 : Int32) (M2 : zM) => zck (zbo w1) (zI w1 M2)) (fun (k1 : Int32 → zM → zO) => zjo (fun  (M1 : zM) => k1 0 M1) (fun (k2 : zM → zO) => zit (a0 < 48) (k2 M) (zit (57 < a0) (k2 M) (k1 1 M)))))
  refine ev_iload_n dd_X12_isDigit_0 0 rfl ?_
  refine ev_bipush (v := 48) dd_X12_isDigit_1 (by decide) ?_
  refine ev_jo (fun (k1 : Int32 → zM → zO) => ∀ (w1 : Int32) (M2 : zM), zEv l G Y_X12_isDigit 1 0 17 [] [.int w1] M2 (k1 w1 M2)) ?_ (fun k1 hk1 => ?_)
  · intro w1 M2
    exact ev_zret dd_X12_isDigit_17 rfl (Nat.le_of_ble_eq_true rfl) rfl
  · refine ev_jo (fun (k2 : zM → zO) => ∀  (M1 : zM), zEv l G Y_X12_isDigit 1 0 16 [] [] M1 (k2 M1)) ?_ (fun k2 hk2 => ?_)
    · intro M1
      refine ev_iconst (v := 0) dd_X12_isDigit_16 (by decide) ?_
      exact hk1 _ _
    · refine ev_icmp_lt 16 dd_X12_isDigit_3 (by decide) ?_ ?_
      · refine ev_lv (lv' := []) [] rfl ?_
        exact hk2 _
      · refine ev_iload_n dd_X12_isDigit_6 0 rfl ?_
        refine ev_lv (lv' := []) [] rfl ?_
        refine ev_bipush (v := 57) dd_X12_isDigit_7 (by decide) ?_
        refine ev_icmp_gt 16 dd_X12_isDigit_9 (by decide) ?_ ?_
        · exact hk2 _
        · refine ev_iconst (v := 1) dd_X12_isDigit_12 (by decide) ?_
          refine ev_goto 17 dd_X12_isDigit_13 (by decide) ?_
          exact hk1 _ _
/-! X12_isLetter -/
theorem dd_X12_isLetter_0 : decode Y_X12_isLetter.2.1 0 = .ok (.iload_n 0, 1) := by decide +kernel
theorem dd_X12_isLetter_1 : decode Y_X12_isLetter.2.1 1 = .ok (.bipush 97, 2) := by decide +kernel
theorem dd_X12_isLetter_3 : decode Y_X12_isLetter.2.1 3 = .ok (.if_icmp .lt 13, 3) := by decide +kernel
theorem dd_X12_isLetter_6 : decode Y_X12_isLetter.2.1 6 = .ok (.iload_n 0, 1) := by decide +kernel
theorem dd_X12_isLetter_7 : decode Y_X12_isLetter.2.1 7 = .ok (.bipush 122, 2) := by decide +kernel
theorem dd_X12_isLetter_9 : decode Y_X12_isLetter.2.1 9 = .ok (.if_icmp .gt 7, 3) := by decide +kernel
theorem dd_X12_isLetter_12 : decode Y_X12_isLetter.2.1 12 = .ok (.iconst 1, 1) := by decide +kernel
theorem dd_X12_isLetter_13 : decode Y_X12_isLetter.2.1 13 = .ok (.goto 4, 3) := by decide +kernel
theorem dd_X12_isLetter_16 : decode Y_X12_isLetter.2.1 16 = .ok (.iconst 0, 1) := by decide +kernel
theorem dd_X12_isLetter_17 : decode Y_X12_isLetter.2.1 17 = .ok (.ireturn, 1) := by decide +kernel
def F_X12_isLetter (a0 : Int32) (M : zM) : zO := zjo (fun (w1 : Int32) (M2 : zM) => zck (zbo w1) (zI w1 M2)) (fun (k1 : Int32 → zM → zO) => zjo (fun  (M1 : zM) => k1 0 M1) (fun (k2 : zM → zO) => zit (a0 < 97) (k2 M) (zit (122 < a0) (k2 M) (k1 1 M))))
set_option maxHeartbeats 1000000 in
set_option maxRecDepth 20000 in
theorem ct_X12_isLetter (l : Launch) (hl : l.stackTraces = false) (G : zG) (a0 : Int32) (M : zM) : zMt l G Y_X12_isLetter 1 [.int a0] M (F_X12_isLetter a0 M) := by
  refine zMt_of (by decide +kernel) (Nat.le_of_ble_eq_true rfl) ?_
  show zEv l G Y_X12_isLetter 1 0 0 [(0, .int a0)] [] M (zjo (fun (w1 : Int32) (M2 : zM) => zck (zbo w1) (zI w1 M2)) (fun (k1 : Int32 → zM → zO) => zjo (fun  (M1 : zM) => k1 0 M1) (fun (k2 : zM → zO) => zit (a0 < 97) (k2 M) (zit (122 < a0) (k2 M) (k1 1 M)))))
  refine ev_iload_n dd_X12_isLetter_0 0 rfl ?_
  refine ev_bipush (v := 97) dd_X12_isLetter_1 (by decide) ?_
  refine ev_jo (fun (k1 : Int32 → zM → zO) => ∀ (w1 : Int32) (M2 : zM), zEv l G Y_X12_isLetter 1 0 17 [] [.int w1] M2 (k1 w1 M2)) ?_ (fun k1 hk1 => ?_)
  · intro w1 M2
    exact ev_zret dd_X12_isLetter_17 rfl (Nat.le_of_ble_eq_true rfl) rfl
  · refine ev_jo (fun (k2 : zM → zO) => ∀  (M1 : zM), zEv l G Y_X12_isLetter 1 0 16 [] [] M1 (k2 M1)) ?_ (fun k2 hk2 => ?_)
    · intro M1
      refine ev_iconst (v := 0) dd_X12_isLetter_16 (by decide) ?_
      exact hk1 _ _
    · refine ev_icmp_lt 16 dd_X12_isLetter_3 (by decide) ?_ ?_
      · refine ev_lv (lv' := []) [] rfl ?_
        exact hk2 _
      · refine ev_iload_n dd_X12_isLetter_6 0 rfl ?_
        refine ev_lv (lv' := []) [] rfl ?_
        refine ev_bipush (v := 122) dd_X12_isLetter_7 (by decide) ?_
        refine ev_icmp_gt 16 dd_X12_isLetter_9 (by decide) ?_ ?_
        · exact hk2 _
        · refine ev_iconst (v := 1) dd_X12_isLetter_12 (by decide) ?_
          refine ev_goto 17 dd_X12_isLetter_13 (by decide) ?_
          exact hk1 _ _
