/-! F functions and walks, by program (gen.py, mkparts.py) -/
/-! J0_isLatin1_aae02 -/
theorem dd_J0_isLatin1_aae02_0 : decode Y_J0_isLatin1_aae02.2.1 0 = .ok (.getstatic 38, 3) := by decide +kernel
theorem dd_J0_isLatin1_aae02_3 : decode Y_J0_isLatin1_aae02.2.1 3 = .ok (.ifCond .eq 14, 3) := by decide +kernel
theorem dd_J0_isLatin1_aae02_6 : decode Y_J0_isLatin1_aae02.2.1 6 = .ok (.aload_n 0, 1) := by decide +kernel
theorem dd_J0_isLatin1_aae02_7 : decode Y_J0_isLatin1_aae02.2.1 7 = .ok (.getfield 15, 3) := by decide +kernel
theorem dd_J0_isLatin1_aae02_10 : decode Y_J0_isLatin1_aae02.2.1 10 = .ok (.ifCond .ne 7, 3) := by decide +kernel
theorem dd_J0_isLatin1_aae02_13 : decode Y_J0_isLatin1_aae02.2.1 13 = .ok (.iconst 1, 1) := by decide +kernel
theorem dd_J0_isLatin1_aae02_14 : decode Y_J0_isLatin1_aae02.2.1 14 = .ok (.goto 4, 3) := by decide +kernel
theorem dd_J0_isLatin1_aae02_18 : decode Y_J0_isLatin1_aae02.2.1 18 = .ok (.ireturn, 1) := by decide +kernel
def F_J0_isLatin1_aae02 (t : Nat) (M : zM) : zO := zjo (fun  (M1 : zM) => none) (fun (k1 : zM → zO) => zit ((1 : Int32) = 0) (k1 M) (zit ((0 : Int32) = 0) (zck (zbo 1) (zI 1 M)) (k1 M)))
set_option maxHeartbeats 1000000 in
set_option maxRecDepth 20000 in
theorem ct_J0_isLatin1_aae02 (l : Launch) (hl : l.stackTraces = false) (G : zG) (t : Nat) (ht : t < zNS) (M : zM) : zMt l G Y_J0_isLatin1_aae02 1 [.ref (G.2.2.2.1 t)] M (F_J0_isLatin1_aae02 t M) := by
  refine zMt_of (by decide +kernel) (Nat.le_of_ble_eq_true rfl) ?_
  show zEv l G Y_J0_isLatin1_aae02 1 0 0 [(0, .ref (G.2.2.2.1 t))] [] M (zjo (fun  (M1 : zM) => none) (fun (k1 : zM → zO) => zit ((1 : Int32) = 0) (k1 M) (zit ((0 : Int32) = 0) (zck (zbo 1) (zI 1 M)) (k1 M))))
  refine ev_gcs lk_RJ0_38 dd_J0_isLatin1_aae02_0 ?_
  refine ev_jo (fun (k1 : zM → zO) => ∀  (M1 : zM), zEv l G Y_J0_isLatin1_aae02 1 0 17 [] [] M1 (k1 M1)) ?_ (fun k1 hk1 => ?_)
  · intro M1
    exact ev_none
  · refine ev_if_eq 17 dd_J0_isLatin1_aae02_3 (by decide) ?_ ?_
    · refine ev_lv (lv' := []) [] rfl ?_
      exact hk1 _
    · refine ev_aload_n dd_J0_isLatin1_aae02_6 0 rfl ?_
      refine ev_lv (lv' := []) [] rfl ?_
      refine ev_scod lk_RJ0_15 dd_J0_isLatin1_aae02_7 ht ?_
      refine ev_if_ne 17 dd_J0_isLatin1_aae02_10 (by decide) ?_ ?_
      · exact hk1 _
      · refine ev_iconst (v := 1) dd_J0_isLatin1_aae02_13 (by decide) ?_
        refine ev_goto 18 dd_J0_isLatin1_aae02_14 (by decide) ?_
        exact ev_zret dd_J0_isLatin1_aae02_18 rfl (Nat.le_of_ble_eq_true rfl) rfl
/-! J3_checkIndex_8e157 -/
theorem dd_J3_checkIndex_8e157_0 : decode Y_J3_checkIndex_8e157.2.1 0 = .ok (.iload_n 0, 1) := by decide +kernel
theorem dd_J3_checkIndex_8e157_1 : decode Y_J3_checkIndex_8e157.2.1 1 = .ok (.ifCond .lt 8, 3) := by decide +kernel
theorem dd_J3_checkIndex_8e157_4 : decode Y_J3_checkIndex_8e157.2.1 4 = .ok (.iload_n 0, 1) := by decide +kernel
theorem dd_J3_checkIndex_8e157_5 : decode Y_J3_checkIndex_8e157.2.1 5 = .ok (.iload_n 1, 1) := by decide +kernel
theorem dd_J3_checkIndex_8e157_6 : decode Y_J3_checkIndex_8e157.2.1 6 = .ok (.if_icmp .lt 10, 3) := by decide +kernel
theorem dd_J3_checkIndex_8e157_16 : decode Y_J3_checkIndex_8e157.2.1 16 = .ok (.iload_n 0, 1) := by decide +kernel
theorem dd_J3_checkIndex_8e157_17 : decode Y_J3_checkIndex_8e157.2.1 17 = .ok (.ireturn, 1) := by decide +kernel
def F_J3_checkIndex_8e157 (a0 : Int32) (a1 : Int32) (M : zM) : zO := zjo (fun  (M1 : zM) => none) (fun (k1 : zM → zO) => zit (a0 < 0) (k1 M) (zit (a0 < a1) (zI a0 M) (k1 M)))
set_option maxHeartbeats 1000000 in
set_option maxRecDepth 20000 in
theorem ct_J3_checkIndex_8e157 (l : Launch) (hl : l.stackTraces = false) (G : zG) (a0 : Int32) (a1 : Int32) (a2 : Value) (ha2 : a2 = Value.null ∨ ∃ t, a2 = Value.ref t) (M : zM) : zMt l G Y_J3_checkIndex_8e157 1 [.int a0, .int a1, a2] M (F_J3_checkIndex_8e157 a0 a1 M) := by
  rcases ha2 with rfl | ⟨q9, rfl⟩
  all_goals refine zMt_of (by decide +kernel) (Nat.le_of_ble_eq_true rfl) ?_
  · show zEv l G Y_J3_checkIndex_8e157 1 0 0 [(0, .int a0), (1, .int a1), (2, Value.null)] [] M (zjo (fun  (M1 : zM) => none) (fun (k1 : zM → zO) => zit (a0 < 0) (k1 M) (zit (a0 < a1) (zI a0 M) (k1 M))))
    refine ev_lv (lv' := [(0, .int a0), (1, .int a1)]) [0, 1] rfl ?_
    refine ev_iload_n dd_J3_checkIndex_8e157_0 0 rfl ?_
    refine ev_jo (fun (k1 : zM → zO) => ∀  (M1 : zM), zEv l G Y_J3_checkIndex_8e157 1 0 9 [] [] M1 (k1 M1)) ?_ (fun k1 hk1 => ?_)
    · intro M1
      exact ev_none
    · refine ev_if_lt 9 dd_J3_checkIndex_8e157_1 (by decide) ?_ ?_
      · refine ev_lv (lv' := []) [] rfl ?_
        exact hk1 _
      · refine ev_iload_n dd_J3_checkIndex_8e157_4 0 rfl ?_
        refine ev_iload_n dd_J3_checkIndex_8e157_5 1 rfl ?_
        refine ev_lv (lv' := [(0, .int a0)]) [0] rfl ?_
        refine ev_icmp_lt 16 dd_J3_checkIndex_8e157_6 (by decide) ?_ ?_
        · refine ev_iload_n dd_J3_checkIndex_8e157_16 0 rfl ?_
          refine ev_lv (lv' := []) [] rfl ?_
          exact ev_iret dd_J3_checkIndex_8e157_17 rfl (Nat.le_of_ble_eq_true rfl) rfl
        · refine ev_lv (lv' := []) [] rfl ?_
          exact hk1 _
  · show zEv l G Y_J3_checkIndex_8e157 1 0 0 [(0, .int a0), (1, .int a1), (2, (Value.ref q9))] [] M (zjo (fun  (M1 : zM) => none) (fun (k1 : zM → zO) => zit (a0 < 0) (k1 M) (zit (a0 < a1) (zI a0 M) (k1 M))))
    refine ev_lv (lv' := [(0, .int a0), (1, .int a1)]) [0, 1] rfl ?_
    refine ev_iload_n dd_J3_checkIndex_8e157_0 0 rfl ?_
    refine ev_jo (fun (k1 : zM → zO) => ∀  (M1 : zM), zEv l G Y_J3_checkIndex_8e157 1 0 9 [] [] M1 (k1 M1)) ?_ (fun k1 hk1 => ?_)
    · intro M1
      exact ev_none
    · refine ev_if_lt 9 dd_J3_checkIndex_8e157_1 (by decide) ?_ ?_
      · refine ev_lv (lv' := []) [] rfl ?_
        exact hk1 _
      · refine ev_iload_n dd_J3_checkIndex_8e157_4 0 rfl ?_
        refine ev_iload_n dd_J3_checkIndex_8e157_5 1 rfl ?_
        refine ev_lv (lv' := [(0, .int a0)]) [0] rfl ?_
        refine ev_icmp_lt 16 dd_J3_checkIndex_8e157_6 (by decide) ?_ ?_
        · refine ev_iload_n dd_J3_checkIndex_8e157_16 0 rfl ?_
          refine ev_lv (lv' := []) [] rfl ?_
          exact ev_iret dd_J3_checkIndex_8e157_17 rfl (Nat.le_of_ble_eq_true rfl) rfl
        · refine ev_lv (lv' := []) [] rfl ?_
          exact hk1 _

/-! J0_checkIndex_df160 -/
theorem dd_J0_checkIndex_df160_0 : decode Y_J0_checkIndex_df160.2.1 0 = .ok (.iload_n 0, 1) := by decide +kernel
theorem dd_J0_checkIndex_df160_1 : decode Y_J0_checkIndex_df160.2.1 1 = .ok (.iload_n 1, 1) := by decide +kernel
theorem dd_J0_checkIndex_df160_2 : decode Y_J0_checkIndex_df160.2.1 2 = .ok (.getstatic 1053, 3) := by decide +kernel
theorem dd_J0_checkIndex_df160_5 : decode Y_J0_checkIndex_df160.2.1 5 = .ok (.invokestatic 1059, 3) := by decide +kernel
theorem dd_J0_checkIndex_df160_8 : decode Y_J0_checkIndex_df160.2.1 8 = .ok (.pop, 1) := by decide +kernel
theorem dd_J0_checkIndex_df160_9 : decode Y_J0_checkIndex_df160.2.1 9 = .ok (.return_, 1) := by decide +kernel
def F_J0_checkIndex_df160 (a0 : Int32) (a1 : Int32) (M : zM) : zO := zbI (F_J3_checkIndex_8e157 a0 a1 M) (fun r1 M1 => zV M1)
set_option maxHeartbeats 1000000 in
set_option maxRecDepth 20000 in
theorem ct_J0_checkIndex_df160 (l : Launch) (hl : l.stackTraces = false) (G : zG) (a0 : Int32) (a1 : Int32) (M : zM) : zMt l G Y_J0_checkIndex_df160 2 [.int a0, .int a1] M (F_J0_checkIndex_df160 a0 a1 M) := by
  refine zMt_of (by decide +kernel) (Nat.le_of_ble_eq_true rfl) ?_
  show zEv l G Y_J0_checkIndex_df160 2 0 0 [(0, .int a0), (1, .int a1)] [] M (zbI (F_J3_checkIndex_8e157 a0 a1 M) (fun r1 M1 => zV M1))
  refine ev_iload_n dd_J0_checkIndex_df160_0 0 rfl ?_
  refine ev_lv (lv' := [(1, .int a1)]) [1] rfl ?_
  refine ev_iload_n dd_J0_checkIndex_df160_1 0 rfl ?_
  refine ev_lv (lv' := []) [] rfl ?_
  refine ev_gfm lk_RJ0_1053 dd_J0_checkIndex_df160_2 (fun q1 hq1 => ?_)
  refine ev_callSI (As := [.int a0, .int a1, q1]) cl_RJ0_1059 (ct_J3_checkIndex_8e157 l hl G a0 a1 q1 hq1 M) dd_J0_checkIndex_df160_5 (by decide) (Nat.le_of_ble_eq_true rfl) (Nat.le_of_ble_eq_true rfl) rfl rfl (fun r1 M1 => ?_)
  refine ev_pop dd_J0_checkIndex_df160_8 rfl ?_
  exact ev_vret dd_J0_checkIndex_df160_9 rfl (Nat.le_of_ble_eq_true rfl) rfl
/-! J1_charAt_3b067 -/
theorem dd_J1_charAt_3b067_0 : decode Y_J1_charAt_3b067.2.1 0 = .ok (.iload_n 1, 1) := by decide +kernel
theorem dd_J1_charAt_3b067_1 : decode Y_J1_charAt_3b067.2.1 1 = .ok (.aload_n 0, 1) := by decide +kernel
theorem dd_J1_charAt_3b067_2 : decode Y_J1_charAt_3b067.2.1 2 = .ok (.arraylength, 1) := by decide +kernel
theorem dd_J1_charAt_3b067_3 : decode Y_J1_charAt_3b067.2.1 3 = .ok (.invokestatic 9, 3) := by decide +kernel
theorem dd_J1_charAt_3b067_6 : decode Y_J1_charAt_3b067.2.1 6 = .ok (.aload_n 0, 1) := by decide +kernel
theorem dd_J1_charAt_3b067_7 : decode Y_J1_charAt_3b067.2.1 7 = .ok (.iload_n 1, 1) := by decide +kernel
theorem dd_J1_charAt_3b067_8 : decode Y_J1_charAt_3b067.2.1 8 = .ok (.baload, 1) := by decide +kernel
theorem dd_J1_charAt_3b067_9 : decode Y_J1_charAt_3b067.2.1 9 = .ok (.sipush 255, 3) := by decide +kernel
theorem dd_J1_charAt_3b067_12 : decode Y_J1_charAt_3b067.2.1 12 = .ok (.iand, 1) := by decide +kernel
theorem dd_J1_charAt_3b067_13 : decode Y_J1_charAt_3b067.2.1 13 = .ok (.i2c, 1) := by decide +kernel
theorem dd_J1_charAt_3b067_14 : decode Y_J1_charAt_3b067.2.1 14 = .ok (.ireturn, 1) := by decide +kernel
def F_J1_charAt_3b067 (a0 : Nat) (a1 : Int32) (M : zM) : zO := zbV (F_J0_checkIndex_df160 a1 (zsL a0) M) (fun M1 => zck (zin a1 (zsl.getD a0 0)) (zck (zna ((((zsC a0 (zix a1)) &&& 255).toUInt32 % 65536).toInt32)) (zI ((((zsC a0 (zix a1)) &&& 255).toUInt32 % 65536).toInt32) M1)))
set_option maxHeartbeats 1000000 in
set_option maxRecDepth 20000 in
theorem ct_J1_charAt_3b067 (l : Launch) (hl : l.stackTraces = false) (G : zG) (a0 : Nat) (ha0 : a0 < zNS) (a1 : Int32) (M : zM) : zMt l G Y_J1_charAt_3b067 3 [.ref (G.2.2.2.2.1 a0), .int a1] M (F_J1_charAt_3b067 a0 a1 M) := by
  refine zMt_of (by decide +kernel) (Nat.le_of_ble_eq_true rfl) ?_
  show zEv l G Y_J1_charAt_3b067 3 0 0 [(0, .ref (G.2.2.2.2.1 a0)), (1, .int a1)] [] M (zbV (F_J0_checkIndex_df160 a1 (zsL a0) M) (fun M1 => zck (zin a1 (zsl.getD a0 0)) (zck (zna ((((zsC a0 (zix a1)) &&& 255).toUInt32 % 65536).toInt32)) (zI ((((zsC a0 (zix a1)) &&& 255).toUInt32 % 65536).toInt32) M1))))
  refine ev_iload_n dd_J1_charAt_3b067_0 1 rfl ?_
  refine ev_aload_n dd_J1_charAt_3b067_1 0 rfl ?_
  refine ev_svlen dd_J1_charAt_3b067_2 ha0 ?_
  refine ev_callSV (As := [.int a1, .int (zsL a0)]) cl_RJ1_9 (ct_J0_checkIndex_df160 l hl G a1 (zsL a0) M) dd_J1_charAt_3b067_3 (by decide) (Nat.le_of_ble_eq_true rfl) (Nat.le_of_ble_eq_true rfl) rfl rfl (fun M1 => ?_)
  refine ev_aload_n dd_J1_charAt_3b067_6 0 rfl ?_
  refine ev_lv (lv' := [(1, .int a1)]) [1] rfl ?_
  refine ev_iload_n dd_J1_charAt_3b067_7 0 rfl ?_
  refine ev_lv (lv' := []) [] rfl ?_
  refine ev_sbald dd_J1_charAt_3b067_8 ha0 ?_
  refine ev_sipush (v := 255) dd_J1_charAt_3b067_9 (by decide) ?_
  refine ev_iand dd_J1_charAt_3b067_12 ?_
  refine ev_i2c dd_J1_charAt_3b067_13 ?_
  exact ev_cret dd_J1_charAt_3b067_14 rfl (Nat.le_of_ble_eq_true rfl) rfl
/-! J0_charAt_5068e -/
theorem dd_J0_charAt_5068e_0 : decode Y_J0_charAt_5068e.2.1 0 = .ok (.aload_n 0, 1) := by decide +kernel
theorem dd_J0_charAt_5068e_1 : decode Y_J0_charAt_5068e.2.1 1 = .ok (.invokevirtual 492, 3) := by decide +kernel
theorem dd_J0_charAt_5068e_4 : decode Y_J0_charAt_5068e.2.1 4 = .ok (.ifCond .eq 12, 3) := by decide +kernel
theorem dd_J0_charAt_5068e_7 : decode Y_J0_charAt_5068e.2.1 7 = .ok (.aload_n 0, 1) := by decide +kernel
theorem dd_J0_charAt_5068e_8 : decode Y_J0_charAt_5068e.2.1 8 = .ok (.getfield 9, 3) := by decide +kernel
theorem dd_J0_charAt_5068e_11 : decode Y_J0_charAt_5068e.2.1 11 = .ok (.iload_n 1, 1) := by decide +kernel
theorem dd_J0_charAt_5068e_12 : decode Y_J0_charAt_5068e.2.1 12 = .ok (.invokestatic 495, 3) := by decide +kernel
theorem dd_J0_charAt_5068e_15 : decode Y_J0_charAt_5068e.2.1 15 = .ok (.ireturn, 1) := by decide +kernel
def F_J0_charAt_5068e (t : Nat) (a1 : Int32) (M : zM) : zO := zbI (F_J0_isLatin1_aae02 t M) (fun r1 M1 => zit (r1 = 0) (none) (zbI (F_J1_charAt_3b067 t a1 M1) (fun r2 M2 => zck (zna r2) (zI r2 M2))))
set_option maxHeartbeats 1000000 in
set_option maxRecDepth 20000 in
theorem ct_J0_charAt_5068e (l : Launch) (hl : l.stackTraces = false) (G : zG) (t : Nat) (ht : t < zNS) (a1 : Int32) (M : zM) : zMt l G Y_J0_charAt_5068e 4 [.ref (G.2.2.2.1 t), .int a1] M (F_J0_charAt_5068e t a1 M) := by
  refine zMt_of (by decide +kernel) (Nat.le_of_ble_eq_true rfl) ?_
  show zEv l G Y_J0_charAt_5068e 4 0 0 [(0, .ref (G.2.2.2.1 t)), (1, .int a1)] [] M (zbI (F_J0_isLatin1_aae02 t M) (fun r1 M1 => zit (r1 = 0) (none) (zbI (F_J1_charAt_3b067 t a1 M1) (fun r2 M2 => zck (zna r2) (zI r2 M2)))))
  refine ev_aload_n dd_J0_charAt_5068e_0 0 rfl ?_
  refine ev_callTI (As := []) cl_RJ0_492 (ct_J0_isLatin1_aae02 l hl G t ht M) dd_J0_charAt_5068e_1 ht (by decide) (Nat.le_of_ble_eq_true rfl) (Nat.le_of_ble_eq_true rfl) rfl rfl (fun r1 M1 => ?_)
  refine ev_if_eq 16 dd_J0_charAt_5068e_4 (by decide) ?_ ?_
  · refine ev_lv (lv' := []) [] rfl ?_
    exact ev_none
  · refine ev_aload_n dd_J0_charAt_5068e_7 0 rfl ?_
    refine ev_lv (lv' := [(1, .int a1)]) [1] rfl ?_
    refine ev_sval lk_RJ0_9 dd_J0_charAt_5068e_8 ht ?_
    refine ev_iload_n dd_J0_charAt_5068e_11 0 rfl ?_
    refine ev_lv (lv' := []) [] rfl ?_
    refine ev_callSI (As := [.ref (G.2.2.2.2.1 t), .int a1]) cl_RJ0_495 (ct_J1_charAt_3b067 l hl G t ht a1 M1) dd_J0_charAt_5068e_12 (by decide) (Nat.le_of_ble_eq_true rfl) (Nat.le_of_ble_eq_true rfl) rfl rfl (fun r2 M2 => ?_)
    exact ev_cret dd_J0_charAt_5068e_15 rfl (Nat.le_of_ble_eq_true rfl) rfl
/-! J0_coder_7d493 -/
theorem dd_J0_coder_7d493_0 : decode Y_J0_coder_7d493.2.1 0 = .ok (.getstatic 38, 3) := by decide +kernel
theorem dd_J0_coder_7d493_3 : decode Y_J0_coder_7d493.2.1 3 = .ok (.ifCond .eq 10, 3) := by decide +kernel
theorem dd_J0_coder_7d493_6 : decode Y_J0_coder_7d493.2.1 6 = .ok (.aload_n 0, 1) := by decide +kernel
theorem dd_J0_coder_7d493_7 : decode Y_J0_coder_7d493.2.1 7 = .ok (.getfield 15, 3) := by decide +kernel
theorem dd_J0_coder_7d493_10 : decode Y_J0_coder_7d493.2.1 10 = .ok (.goto 4, 3) := by decide +kernel
theorem dd_J0_coder_7d493_14 : decode Y_J0_coder_7d493.2.1 14 = .ok (.ireturn, 1) := by decide +kernel
def F_J0_coder_7d493 (t : Nat) (M : zM) : zO := zit ((1 : Int32) = 0) (none) (zck (znb 0) (zI 0 M))
set_option maxHeartbeats 1000000 in
set_option maxRecDepth 20000 in
theorem ct_J0_coder_7d493 (l : Launch) (hl : l.stackTraces = false) (G : zG) (t : Nat) (ht : t < zNS) (M : zM) : zMt l G Y_J0_coder_7d493 1 [.ref (G.2.2.2.1 t)] M (F_J0_coder_7d493 t M) := by
  refine zMt_of (by decide +kernel) (Nat.le_of_ble_eq_true rfl) ?_
  show zEv l G Y_J0_coder_7d493 1 0 0 [(0, .ref (G.2.2.2.1 t))] [] M (zit ((1 : Int32) = 0) (none) (zck (znb 0) (zI 0 M)))
  refine ev_gcs lk_RJ0_38 dd_J0_coder_7d493_0 ?_
  refine ev_if_eq 13 dd_J0_coder_7d493_3 (by decide) ?_ ?_
  · refine ev_lv (lv' := []) [] rfl ?_
    exact ev_none
  · refine ev_aload_n dd_J0_coder_7d493_6 0 rfl ?_
    refine ev_lv (lv' := []) [] rfl ?_
    refine ev_scod lk_RJ0_15 dd_J0_coder_7d493_7 ht ?_
    refine ev_goto 14 dd_J0_coder_7d493_10 (by decide) ?_
    exact ev_bret dd_J0_coder_7d493_14 rfl (Nat.le_of_ble_eq_true rfl) rfl
/-! J0_length_8abf5 -/
theorem dd_J0_length_8abf5_0 : decode Y_J0_length_8abf5.2.1 0 = .ok (.aload_n 0, 1) := by decide +kernel
theorem dd_J0_length_8abf5_1 : decode Y_J0_length_8abf5.2.1 1 = .ok (.getfield 9, 3) := by decide +kernel
theorem dd_J0_length_8abf5_4 : decode Y_J0_length_8abf5.2.1 4 = .ok (.arraylength, 1) := by decide +kernel
theorem dd_J0_length_8abf5_5 : decode Y_J0_length_8abf5.2.1 5 = .ok (.aload_n 0, 1) := by decide +kernel
theorem dd_J0_length_8abf5_6 : decode Y_J0_length_8abf5.2.1 6 = .ok (.invokevirtual 335, 3) := by decide +kernel
theorem dd_J0_length_8abf5_9 : decode Y_J0_length_8abf5.2.1 9 = .ok (.ishr, 1) := by decide +kernel
theorem dd_J0_length_8abf5_10 : decode Y_J0_length_8abf5.2.1 10 = .ok (.ireturn, 1) := by decide +kernel
def F_J0_length_8abf5 (t : Nat) (M : zM) : zO := zbI (F_J0_coder_7d493 t M) (fun r1 M1 => zI ((zsL t) >>> (r1 &&& 31)) M1)
set_option maxHeartbeats 1000000 in
set_option maxRecDepth 20000 in
theorem ct_J0_length_8abf5 (l : Launch) (hl : l.stackTraces = false) (G : zG) (t : Nat) (ht : t < zNS) (M : zM) : zMt l G Y_J0_length_8abf5 2 [.ref (G.2.2.2.1 t)] M (F_J0_length_8abf5 t M) := by
  refine zMt_of (by decide +kernel) (Nat.le_of_ble_eq_true rfl) ?_
  show zEv l G Y_J0_length_8abf5 2 0 0 [(0, .ref (G.2.2.2.1 t))] [] M (zbI (F_J0_coder_7d493 t M) (fun r1 M1 => zI ((zsL t) >>> (r1 &&& 31)) M1))
  refine ev_aload_n dd_J0_length_8abf5_0 0 rfl ?_
  refine ev_sval lk_RJ0_9 dd_J0_length_8abf5_1 ht ?_
  refine ev_svlen dd_J0_length_8abf5_4 ht ?_
  refine ev_aload_n dd_J0_length_8abf5_5 0 rfl ?_
  refine ev_lv (lv' := []) [] rfl ?_
  refine ev_callTI (As := []) cl_RJ0_335 (ct_J0_coder_7d493 l hl G t ht M) dd_J0_length_8abf5_6 ht (by decide) (Nat.le_of_ble_eq_true rfl) (Nat.le_of_ble_eq_true rfl) rfl rfl (fun r1 M1 => ?_)
  refine ev_ishr dd_J0_length_8abf5_9 ?_
  exact ev_iret dd_J0_length_8abf5_10 rfl (Nat.le_of_ble_eq_true rfl) rfl
/-! J1_canEncode_9a6ad -/
theorem dd_J1_canEncode_9a6ad_0 : decode Y_J1_canEncode_9a6ad.2.1 0 = .ok (.iload_n 0, 1) := by decide +kernel
theorem dd_J1_canEncode_9a6ad_1 : decode Y_J1_canEncode_9a6ad.2.1 1 = .ok (.ifCond .lt 14, 3) := by decide +kernel
theorem dd_J1_canEncode_9a6ad_4 : decode Y_J1_canEncode_9a6ad.2.1 4 = .ok (.iload_n 0, 1) := by decide +kernel
theorem dd_J1_canEncode_9a6ad_5 : decode Y_J1_canEncode_9a6ad.2.1 5 = .ok (.sipush 255, 3) := by decide +kernel
theorem dd_J1_canEncode_9a6ad_8 : decode Y_J1_canEncode_9a6ad.2.1 8 = .ok (.if_icmp .gt 7, 3) := by decide +kernel
theorem dd_J1_canEncode_9a6ad_11 : decode Y_J1_canEncode_9a6ad.2.1 11 = .ok (.iconst 1, 1) := by decide +kernel
theorem dd_J1_canEncode_9a6ad_12 : decode Y_J1_canEncode_9a6ad.2.1 12 = .ok (.goto 4, 3) := by decide +kernel
theorem dd_J1_canEncode_9a6ad_15 : decode Y_J1_canEncode_9a6ad.2.1 15 = .ok (.iconst 0, 1) := by decide +kernel
theorem dd_J1_canEncode_9a6ad_16 : decode Y_J1_canEncode_9a6ad.2.1 16 = .ok (.ireturn, 1) := by decide +kernel
def F_J1_canEncode_9a6ad (a0 : Int32) (M : zM) : zO := zjo (fun (w1 : Int32) (M2 : zM) => zck (zbo w1) (zI w1 M2)) (fun (k1 : Int32 → zM → zO) => zjo (fun  (M1 : zM) => k1 0 M1) (fun (k2 : zM → zO) => zit (a0 < 0) (k2 M) (zit (255 < a0) (k2 M) (k1 1 M))))
set_option maxHeartbeats 1000000 in
set_option maxRecDepth 20000 in
theorem ct_J1_canEncode_9a6ad (l : Launch) (hl : l.stackTraces = false) (G : zG) (a0 : Int32) (M : zM) : zMt l G Y_J1_canEncode_9a6ad 1 [.int a0] M (F_J1_canEncode_9a6ad a0 M) := by
  refine zMt_of (by decide +kernel) (Nat.le_of_ble_eq_true rfl) ?_
  show zEv l G Y_J1_canEncode_9a6ad 1 0 0 [(0, .int a0)] [] M (zjo (fun (w1 : Int32) (M2 : zM) => zck (zbo w1) (zI w1 M2)) (fun (k1 : Int32 → zM → zO) => zjo (fun  (M1 : zM) => k1 0 M1) (fun (k2 : zM → zO) => zit (a0 < 0) (k2 M) (zit (255 < a0) (k2 M) (k1 1 M)))))
  refine ev_iload_n dd_J1_canEncode_9a6ad_0 0 rfl ?_
  refine ev_jo (fun (k1 : Int32 → zM → zO) => ∀ (w1 : Int32) (M2 : zM), zEv l G Y_J1_canEncode_9a6ad 1 0 16 [] [.int w1] M2 (k1 w1 M2)) ?_ (fun k1 hk1 => ?_)
  · intro w1 M2
    exact ev_zret dd_J1_canEncode_9a6ad_16 rfl (Nat.le_of_ble_eq_true rfl) rfl
  · refine ev_jo (fun (k2 : zM → zO) => ∀  (M1 : zM), zEv l G Y_J1_canEncode_9a6ad 1 0 15 [] [] M1 (k2 M1)) ?_ (fun k2 hk2 => ?_)
    · intro M1
      refine ev_iconst (v := 0) dd_J1_canEncode_9a6ad_15 (by decide) ?_
      exact hk1 _ _
    · refine ev_if_lt 15 dd_J1_canEncode_9a6ad_1 (by decide) ?_ ?_
      · refine ev_lv (lv' := []) [] rfl ?_
        exact hk2 _
      · refine ev_iload_n dd_J1_canEncode_9a6ad_4 0 rfl ?_
        refine ev_lv (lv' := []) [] rfl ?_
        refine ev_sipush (v := 255) dd_J1_canEncode_9a6ad_5 (by decide) ?_
        refine ev_icmp_gt 15 dd_J1_canEncode_9a6ad_8 (by decide) ?_ ?_
        · exact hk2 _
        · refine ev_iconst (v := 1) dd_J1_canEncode_9a6ad_11 (by decide) ?_
          refine ev_goto 16 dd_J1_canEncode_9a6ad_12 (by decide) ?_
          exact hk1 _ _
/-! J1_indexOfChar_4cfef -/
theorem dd_J1_indexOfChar_4cfef_0 : decode Y_J1_indexOfChar_4cfef.2.1 0 = .ok (.iload_n 1, 1) := by decide +kernel
theorem dd_J1_indexOfChar_4cfef_1 : decode Y_J1_indexOfChar_4cfef.2.1 1 = .ok (.i2b, 1) := by decide +kernel
theorem dd_J1_indexOfChar_4cfef_2 : decode Y_J1_indexOfChar_4cfef.2.1 2 = .ok (.istore 4, 2) := by decide +kernel
theorem dd_J1_indexOfChar_4cfef_4 : decode Y_J1_indexOfChar_4cfef.2.1 4 = .ok (.iload_n 2, 1) := by decide +kernel
theorem dd_J1_indexOfChar_4cfef_5 : decode Y_J1_indexOfChar_4cfef.2.1 5 = .ok (.istore 5, 2) := by decide +kernel
theorem dd_J1_indexOfChar_4cfef_7 : decode Y_J1_indexOfChar_4cfef.2.1 7 = .ok (.iload 5, 2) := by decide +kernel
theorem dd_J1_indexOfChar_4cfef_9 : decode Y_J1_indexOfChar_4cfef.2.1 9 = .ok (.iload_n 3, 1) := by decide +kernel
theorem dd_J1_indexOfChar_4cfef_10 : decode Y_J1_indexOfChar_4cfef.2.1 10 = .ok (.if_icmp .ge 21, 3) := by decide +kernel
theorem dd_J1_indexOfChar_4cfef_13 : decode Y_J1_indexOfChar_4cfef.2.1 13 = .ok (.aload_n 0, 1) := by decide +kernel
theorem dd_J1_indexOfChar_4cfef_14 : decode Y_J1_indexOfChar_4cfef.2.1 14 = .ok (.iload 5, 2) := by decide +kernel
theorem dd_J1_indexOfChar_4cfef_16 : decode Y_J1_indexOfChar_4cfef.2.1 16 = .ok (.baload, 1) := by decide +kernel
theorem dd_J1_indexOfChar_4cfef_17 : decode Y_J1_indexOfChar_4cfef.2.1 17 = .ok (.iload 4, 2) := by decide +kernel
theorem dd_J1_indexOfChar_4cfef_19 : decode Y_J1_indexOfChar_4cfef.2.1 19 = .ok (.if_icmp .ne 6, 3) := by decide +kernel
theorem dd_J1_indexOfChar_4cfef_22 : decode Y_J1_indexOfChar_4cfef.2.1 22 = .ok (.iload 5, 2) := by decide +kernel
theorem dd_J1_indexOfChar_4cfef_24 : decode Y_J1_indexOfChar_4cfef.2.1 24 = .ok (.ireturn, 1) := by decide +kernel
theorem dd_J1_indexOfChar_4cfef_25 : decode Y_J1_indexOfChar_4cfef.2.1 25 = .ok (.iinc 5 1, 3) := by decide +kernel
theorem dd_J1_indexOfChar_4cfef_28 : decode Y_J1_indexOfChar_4cfef.2.1 28 = .ok (.goto (-21), 3) := by decide +kernel
theorem dd_J1_indexOfChar_4cfef_31 : decode Y_J1_indexOfChar_4cfef.2.1 31 = .ok (.iconst (-1), 1) := by decide +kernel
theorem dd_J1_indexOfChar_4cfef_32 : decode Y_J1_indexOfChar_4cfef.2.1 32 = .ok (.ireturn, 1) := by decide +kernel
def F_J1_indexOfChar_4cfef_L7 (x0 : Nat) (x3 : Int32) (x4 : Int32) (K31 : zM → zO) : Nat → Int32 → zM → zO
  | 0, _, _ => none
  | n + 1, x5, M => zit (x3 ≤ x5) (K31 M) (zck (zin x5 (zsl.getD x0 0)) (zit ((zsC x0 (zix x5)) = x4) (zI x5 M) (F_J1_indexOfChar_4cfef_L7 x0 x3 x4 K31 n (x5 + 1) M)))
def F_J1_indexOfChar_4cfef (a0 : Nat) (a1 : Int32) (a2 : Int32) (a3 : Int32) (M : zM) : zO := F_J1_indexOfChar_4cfef_L7 a0 a3 a1.toInt8.toInt32 (fun  (M1 : zM) => zI (-1) M1) zN a2 M
set_option maxHeartbeats 1000000 in
set_option maxRecDepth 20000 in
theorem ct_J1_indexOfChar_4cfef_L7 (l : Launch) (hl : l.stackTraces = false) (G : zG) (x0 : Nat) (hx0 : x0 < zNS) (x3 : Int32) (x4 : Int32) (K31 : zM → zO) (hK31 : ∀  (M : zM), zEv l G Y_J1_indexOfChar_4cfef 1 0 31 [] [] M (K31 M)) : ∀ (n : Nat) (x5 : Int32) (M : zM), zEv l G Y_J1_indexOfChar_4cfef 1 0 7 [(0, .ref (G.2.2.2.2.1 x0)), (3, .int x3), (4, .int x4), (5, .int x5)] [] M (F_J1_indexOfChar_4cfef_L7 x0 x3 x4 K31 n x5 M) := by
  intro n
  induction n with
  | zero => intro x5 M; exact ev_none
  | succ n ih =>
    intro x5 M
    show zEv l G Y_J1_indexOfChar_4cfef 1 0 7 [(0, .ref (G.2.2.2.2.1 x0)), (3, .int x3), (4, .int x4), (5, .int x5)] [] M (zit (x3 ≤ x5) (K31 M) (zck (zin x5 (zsl.getD x0 0)) (zit ((zsC x0 (zix x5)) = x4) (zI x5 M) (F_J1_indexOfChar_4cfef_L7 x0 x3 x4 K31 n (x5 + 1) M))))
    refine ev_iload dd_J1_indexOfChar_4cfef_7 3 rfl ?_
    refine ev_iload_n dd_J1_indexOfChar_4cfef_9 1 rfl ?_
    refine ev_icmp_ge 31 dd_J1_indexOfChar_4cfef_10 (by decide) ?_ ?_
    · refine ev_lv (lv' := []) [] rfl ?_
      exact hK31 _
    · refine ev_aload_n dd_J1_indexOfChar_4cfef_13 0 rfl ?_
      refine ev_iload dd_J1_indexOfChar_4cfef_14 3 rfl ?_
      refine ev_sbald dd_J1_indexOfChar_4cfef_16 hx0 ?_
      refine ev_iload dd_J1_indexOfChar_4cfef_17 2 rfl ?_
      refine ev_icmp_ne 25 dd_J1_indexOfChar_4cfef_19 (by decide) ?_ ?_
      · refine ev_iinc (j := 3) (v := 1) (lv' := [(0, .ref (G.2.2.2.2.1 x0)), (3, .int x3), (4, .int x4), (5, .int (x5 + 1))]) [1, 2, 3, 0] dd_J1_indexOfChar_4cfef_25 rfl (by decide) (by decide) rfl ?_
        refine ev_goto 7 dd_J1_indexOfChar_4cfef_28 (by decide) ?_
        exact ih _ _
      · refine ev_lv (lv' := [(5, .int x5)]) [3] rfl ?_
        refine ev_iload dd_J1_indexOfChar_4cfef_22 0 rfl ?_
        refine ev_lv (lv' := []) [] rfl ?_
        exact ev_iret dd_J1_indexOfChar_4cfef_24 rfl (Nat.le_of_ble_eq_true rfl) rfl
set_option maxHeartbeats 1000000 in
set_option maxRecDepth 20000 in
theorem ct_J1_indexOfChar_4cfef (l : Launch) (hl : l.stackTraces = false) (G : zG) (a0 : Nat) (ha0 : a0 < zNS) (a1 : Int32) (a2 : Int32) (a3 : Int32) (M : zM) : zMt l G Y_J1_indexOfChar_4cfef 1 [.ref (G.2.2.2.2.1 a0), .int a1, .int a2, .int a3] M (F_J1_indexOfChar_4cfef a0 a1 a2 a3 M) := by
  refine zMt_of (by decide +kernel) (Nat.le_of_ble_eq_true rfl) ?_
  show zEv l G Y_J1_indexOfChar_4cfef 1 0 0 [(0, .ref (G.2.2.2.2.1 a0)), (1, .int a1), (2, .int a2), (3, .int a3)] [] M (F_J1_indexOfChar_4cfef_L7 a0 a3 a1.toInt8.toInt32 (fun  (M1 : zM) => zI (-1) M1) zN a2 M)
  refine ev_iload_n dd_J1_indexOfChar_4cfef_0 1 rfl ?_
  refine ev_lv (lv' := [(0, .ref (G.2.2.2.2.1 a0)), (2, .int a2), (3, .int a3)]) [0, 2, 3] rfl ?_
  refine ev_i2b dd_J1_indexOfChar_4cfef_1 ?_
  refine ev_istore (i := 4) (lv' := [(0, .ref (G.2.2.2.2.1 a0)), (2, .int a2), (3, .int a3), (4, .int a1.toInt8.toInt32)]) [1, 2, 3, 0] dd_J1_indexOfChar_4cfef_2 (by decide) rfl ?_
  refine ev_iload_n dd_J1_indexOfChar_4cfef_4 1 rfl ?_
  refine ev_lv (lv' := [(0, .ref (G.2.2.2.2.1 a0)), (3, .int a3), (4, .int a1.toInt8.toInt32)]) [0, 2, 3] rfl ?_
  refine ev_istore (i := 5) (lv' := [(0, .ref (G.2.2.2.2.1 a0)), (3, .int a3), (4, .int a1.toInt8.toInt32), (5, .int a2)]) [1, 2, 3, 0] dd_J1_indexOfChar_4cfef_5 (by decide) rfl ?_
  refine ct_J1_indexOfChar_4cfef_L7 l hl G a0 ha0 a3 a1.toInt8.toInt32 _ (fun M1 => ?_) zN _ _
  refine ev_iconst (v := (-1)) dd_J1_indexOfChar_4cfef_31 (by decide) ?_
  exact ev_iret dd_J1_indexOfChar_4cfef_32 rfl (Nat.le_of_ble_eq_true rfl) rfl
/-! J1_indexOf_4cfef -/
theorem dd_J1_indexOf_4cfef_0 : decode Y_J1_indexOf_4cfef.2.1 0 = .ok (.iload_n 1, 1) := by decide +kernel
theorem dd_J1_indexOf_4cfef_1 : decode Y_J1_indexOf_4cfef.2.1 1 = .ok (.invokestatic 88, 3) := by decide +kernel
theorem dd_J1_indexOf_4cfef_4 : decode Y_J1_indexOf_4cfef.2.1 4 = .ok (.ifCond .ne 5, 3) := by decide +kernel
theorem dd_J1_indexOf_4cfef_7 : decode Y_J1_indexOf_4cfef.2.1 7 = .ok (.iconst (-1), 1) := by decide +kernel
theorem dd_J1_indexOf_4cfef_8 : decode Y_J1_indexOf_4cfef.2.1 8 = .ok (.ireturn, 1) := by decide +kernel
theorem dd_J1_indexOf_4cfef_9 : decode Y_J1_indexOf_4cfef.2.1 9 = .ok (.iload_n 2, 1) := by decide +kernel
theorem dd_J1_indexOf_4cfef_10 : decode Y_J1_indexOf_4cfef.2.1 10 = .ok (.iconst 0, 1) := by decide +kernel
theorem dd_J1_indexOf_4cfef_11 : decode Y_J1_indexOf_4cfef.2.1 11 = .ok (.invokestatic 92, 3) := by decide +kernel
theorem dd_J1_indexOf_4cfef_14 : decode Y_J1_indexOf_4cfef.2.1 14 = .ok (.istore_n 2, 1) := by decide +kernel
theorem dd_J1_indexOf_4cfef_15 : decode Y_J1_indexOf_4cfef.2.1 15 = .ok (.iload_n 3, 1) := by decide +kernel
theorem dd_J1_indexOf_4cfef_16 : decode Y_J1_indexOf_4cfef.2.1 16 = .ok (.aload_n 0, 1) := by decide +kernel
theorem dd_J1_indexOf_4cfef_17 : decode Y_J1_indexOf_4cfef.2.1 17 = .ok (.arraylength, 1) := by decide +kernel
theorem dd_J1_indexOf_4cfef_18 : decode Y_J1_indexOf_4cfef.2.1 18 = .ok (.invokestatic 38, 3) := by decide +kernel
theorem dd_J1_indexOf_4cfef_21 : decode Y_J1_indexOf_4cfef.2.1 21 = .ok (.istore_n 3, 1) := by decide +kernel
theorem dd_J1_indexOf_4cfef_22 : decode Y_J1_indexOf_4cfef.2.1 22 = .ok (.iload_n 2, 1) := by decide +kernel
theorem dd_J1_indexOf_4cfef_23 : decode Y_J1_indexOf_4cfef.2.1 23 = .ok (.iload_n 3, 1) := by decide +kernel
theorem dd_J1_indexOf_4cfef_24 : decode Y_J1_indexOf_4cfef.2.1 24 = .ok (.if_icmp .lt 5, 3) := by decide +kernel
theorem dd_J1_indexOf_4cfef_27 : decode Y_J1_indexOf_4cfef.2.1 27 = .ok (.iconst (-1), 1) := by decide +kernel
theorem dd_J1_indexOf_4cfef_28 : decode Y_J1_indexOf_4cfef.2.1 28 = .ok (.ireturn, 1) := by decide +kernel
theorem dd_J1_indexOf_4cfef_29 : decode Y_J1_indexOf_4cfef.2.1 29 = .ok (.aload_n 0, 1) := by decide +kernel
theorem dd_J1_indexOf_4cfef_30 : decode Y_J1_indexOf_4cfef.2.1 30 = .ok (.iload_n 1, 1) := by decide +kernel
theorem dd_J1_indexOf_4cfef_31 : decode Y_J1_indexOf_4cfef.2.1 31 = .ok (.iload_n 2, 1) := by decide +kernel
theorem dd_J1_indexOf_4cfef_32 : decode Y_J1_indexOf_4cfef.2.1 32 = .ok (.iload_n 3, 1) := by decide +kernel
theorem dd_J1_indexOf_4cfef_33 : decode Y_J1_indexOf_4cfef.2.1 33 = .ok (.invokestatic 95, 3) := by decide +kernel
theorem dd_J1_indexOf_4cfef_36 : decode Y_J1_indexOf_4cfef.2.1 36 = .ok (.ireturn, 1) := by decide +kernel
def F_J1_indexOf_4cfef (a0 : Nat) (a1 : Int32) (a2 : Int32) (a3 : Int32) (M : zM) : zO := zbI (F_J1_canEncode_9a6ad a1 M) (fun r1 M1 => zit (r1 = 0) (zI (-1) M1) (zlt (if a2 < 0 then 0 else a2) (fun v1 => zlt (if (zsL a0) < a3 then zsL a0 else a3) (fun v2 => zit (v1 < v2) (zbI (F_J1_indexOfChar_4cfef a0 a1 v1 v2 M1) (fun r2 M2 => zI r2 M2)) (zI (-1) M1)))))
set_option maxHeartbeats 1000000 in
set_option maxRecDepth 20000 in
theorem ct_J1_indexOf_4cfef (l : Launch) (hl : l.stackTraces = false) (G : zG) (a0 : Nat) (ha0 : a0 < zNS) (a1 : Int32) (a2 : Int32) (a3 : Int32) (M : zM) : zMt l G Y_J1_indexOf_4cfef 8 [.ref (G.2.2.2.2.1 a0), .int a1, .int a2, .int a3] M (F_J1_indexOf_4cfef a0 a1 a2 a3 M) := by
  refine zMt_of (by decide +kernel) (Nat.le_of_ble_eq_true rfl) ?_
  show zEv l G Y_J1_indexOf_4cfef 8 0 0 [(0, .ref (G.2.2.2.2.1 a0)), (1, .int a1), (2, .int a2), (3, .int a3)] [] M (zbI (F_J1_canEncode_9a6ad a1 M) (fun r1 M1 => zit (r1 = 0) (zI (-1) M1) (zlt (if a2 < 0 then 0 else a2) (fun v1 => zlt (if (zsL a0) < a3 then zsL a0 else a3) (fun v2 => zit (v1 < v2) (zbI (F_J1_indexOfChar_4cfef a0 a1 v1 v2 M1) (fun r2 M2 => zI r2 M2)) (zI (-1) M1))))))
  refine ev_iload_n dd_J1_indexOf_4cfef_0 1 rfl ?_
  refine ev_callSI (As := [.int a1]) cl_RJ1_88 (ct_J1_canEncode_9a6ad l hl G a1 M) dd_J1_indexOf_4cfef_1 (by decide) (Nat.le_of_ble_eq_true rfl) (Nat.le_of_ble_eq_true rfl) rfl rfl (fun r1 M1 => ?_)
  refine ev_if_ne 9 dd_J1_indexOf_4cfef_4 (by decide) ?_ ?_
  · refine ev_iload_n dd_J1_indexOf_4cfef_9 2 rfl ?_
    refine ev_lv (lv' := [(0, .ref (G.2.2.2.2.1 a0)), (1, .int a1), (3, .int a3)]) [0, 1, 3] rfl ?_
    refine ev_iconst (v := 0) dd_J1_indexOf_4cfef_10 (by decide) ?_
    refine ev_mmax mw_RJ1_92 dd_J1_indexOf_4cfef_11 (Nat.le_of_ble_eq_true rfl) (Nat.le_of_ble_eq_true rfl) ?_
    refine ev_topi (fun v1 => ?_)
    refine ev_istore_n (i := 2) (lv' := [(0, .ref (G.2.2.2.2.1 a0)), (1, .int a1), (2, .int v1), (3, .int a3)]) [1, 2, 0, 3] dd_J1_indexOf_4cfef_14 rfl (by decide) rfl ?_
    refine ev_iload_n dd_J1_indexOf_4cfef_15 3 rfl ?_
    refine ev_lv (lv' := [(0, .ref (G.2.2.2.2.1 a0)), (1, .int a1), (2, .int v1)]) [0, 1, 2] rfl ?_
    refine ev_aload_n dd_J1_indexOf_4cfef_16 0 rfl ?_
    refine ev_svlen dd_J1_indexOf_4cfef_17 ha0 ?_
    refine ev_mmin mw_RJ1_38 dd_J1_indexOf_4cfef_18 (Nat.le_of_ble_eq_true rfl) (Nat.le_of_ble_eq_true rfl) ?_
    refine ev_topi (fun v2 => ?_)
    refine ev_istore_n (i := 3) (lv' := [(0, .ref (G.2.2.2.2.1 a0)), (1, .int a1), (2, .int v1), (3, .int v2)]) [1, 2, 3, 0] dd_J1_indexOf_4cfef_21 rfl (by decide) rfl ?_
    refine ev_iload_n dd_J1_indexOf_4cfef_22 2 rfl ?_
    refine ev_iload_n dd_J1_indexOf_4cfef_23 3 rfl ?_
    refine ev_icmp_lt 29 dd_J1_indexOf_4cfef_24 (by decide) ?_ ?_
    · refine ev_aload_n dd_J1_indexOf_4cfef_29 0 rfl ?_
      refine ev_lv (lv' := [(1, .int a1), (2, .int v1), (3, .int v2)]) [1, 2, 3] rfl ?_
      refine ev_iload_n dd_J1_indexOf_4cfef_30 0 rfl ?_
      refine ev_lv (lv' := [(2, .int v1), (3, .int v2)]) [1, 2] rfl ?_
      refine ev_iload_n dd_J1_indexOf_4cfef_31 0 rfl ?_
      refine ev_lv (lv' := [(3, .int v2)]) [1] rfl ?_
      refine ev_iload_n dd_J1_indexOf_4cfef_32 0 rfl ?_
      refine ev_lv (lv' := []) [] rfl ?_
      refine ev_callSI (As := [.ref (G.2.2.2.2.1 a0), .int a1, .int v1, .int v2]) cl_RJ1_95 (ct_J1_indexOfChar_4cfef l hl G a0 ha0 a1 v1 v2 M1) dd_J1_indexOf_4cfef_33 (by decide) (Nat.le_of_ble_eq_true rfl) (Nat.le_of_ble_eq_true rfl) rfl rfl (fun r2 M2 => ?_)
      exact ev_iret dd_J1_indexOf_4cfef_36 rfl (Nat.le_of_ble_eq_true rfl) rfl
    · refine ev_lv (lv' := []) [] rfl ?_
      refine ev_iconst (v := (-1)) dd_J1_indexOf_4cfef_27 (by decide) ?_
      exact ev_iret dd_J1_indexOf_4cfef_28 rfl (Nat.le_of_ble_eq_true rfl) rfl
  · refine ev_lv (lv' := []) [] rfl ?_
    refine ev_iconst (v := (-1)) dd_J1_indexOf_4cfef_7 (by decide) ?_
    exact ev_iret dd_J1_indexOf_4cfef_8 rfl (Nat.le_of_ble_eq_true rfl) rfl
/-! J0_indexOf_7cf53 -/
theorem dd_J0_indexOf_7cf53_0 : decode Y_J0_indexOf_7cf53.2.1 0 = .ok (.aload_n 0, 1) := by decide +kernel
theorem dd_J0_indexOf_7cf53_1 : decode Y_J0_indexOf_7cf53.2.1 1 = .ok (.invokevirtual 492, 3) := by decide +kernel
theorem dd_J0_indexOf_7cf53_4 : decode Y_J0_indexOf_7cf53.2.1 4 = .ok (.ifCond .eq 19, 3) := by decide +kernel
theorem dd_J0_indexOf_7cf53_7 : decode Y_J0_indexOf_7cf53.2.1 7 = .ok (.aload_n 0, 1) := by decide +kernel
theorem dd_J0_indexOf_7cf53_8 : decode Y_J0_indexOf_7cf53.2.1 8 = .ok (.getfield 9, 3) := by decide +kernel
theorem dd_J0_indexOf_7cf53_11 : decode Y_J0_indexOf_7cf53.2.1 11 = .ok (.iload_n 1, 1) := by decide +kernel
theorem dd_J0_indexOf_7cf53_12 : decode Y_J0_indexOf_7cf53.2.1 12 = .ok (.iload_n 2, 1) := by decide +kernel
theorem dd_J0_indexOf_7cf53_13 : decode Y_J0_indexOf_7cf53.2.1 13 = .ok (.aload_n 0, 1) := by decide +kernel
theorem dd_J0_indexOf_7cf53_14 : decode Y_J0_indexOf_7cf53.2.1 14 = .ok (.invokevirtual 505, 3) := by decide +kernel
theorem dd_J0_indexOf_7cf53_17 : decode Y_J0_indexOf_7cf53.2.1 17 = .ok (.invokestatic 637, 3) := by decide +kernel
theorem dd_J0_indexOf_7cf53_20 : decode Y_J0_indexOf_7cf53.2.1 20 = .ok (.goto 16, 3) := by decide +kernel
theorem dd_J0_indexOf_7cf53_36 : decode Y_J0_indexOf_7cf53.2.1 36 = .ok (.ireturn, 1) := by decide +kernel
def F_J0_indexOf_7cf53 (t : Nat) (a1 : Int32) (a2 : Int32) (M : zM) : zO := zbI (F_J0_isLatin1_aae02 t M) (fun r1 M1 => zit (r1 = 0) (none) (zbI (F_J0_length_8abf5 t M1) (fun r2 M2 => zbI (F_J1_indexOf_4cfef t a1 a2 r2 M2) (fun r3 M3 => zI r3 M3))))
set_option maxHeartbeats 1000000 in
set_option maxRecDepth 20000 in
theorem ct_J0_indexOf_7cf53 (l : Launch) (hl : l.stackTraces = false) (G : zG) (t : Nat) (ht : t < zNS) (a1 : Int32) (a2 : Int32) (M : zM) : zMt l G Y_J0_indexOf_7cf53 9 [.ref (G.2.2.2.1 t), .int a1, .int a2] M (F_J0_indexOf_7cf53 t a1 a2 M) := by
  refine zMt_of (by decide +kernel) (Nat.le_of_ble_eq_true rfl) ?_
  show zEv l G Y_J0_indexOf_7cf53 9 0 0 [(0, .ref (G.2.2.2.1 t)), (1, .int a1), (2, .int a2)] [] M (zbI (F_J0_isLatin1_aae02 t M) (fun r1 M1 => zit (r1 = 0) (none) (zbI (F_J0_length_8abf5 t M1) (fun r2 M2 => zbI (F_J1_indexOf_4cfef t a1 a2 r2 M2) (fun r3 M3 => zI r3 M3)))))
  refine ev_aload_n dd_J0_indexOf_7cf53_0 0 rfl ?_
  refine ev_callTI (As := []) cl_RJ0_492 (ct_J0_isLatin1_aae02 l hl G t ht M) dd_J0_indexOf_7cf53_1 ht (by decide) (Nat.le_of_ble_eq_true rfl) (Nat.le_of_ble_eq_true rfl) rfl rfl (fun r1 M1 => ?_)
  refine ev_if_eq 23 dd_J0_indexOf_7cf53_4 (by decide) ?_ ?_
  · refine ev_lv (lv' := []) [] rfl ?_
    exact ev_none
  · refine ev_aload_n dd_J0_indexOf_7cf53_7 0 rfl ?_
    refine ev_sval lk_RJ0_9 dd_J0_indexOf_7cf53_8 ht ?_
    refine ev_iload_n dd_J0_indexOf_7cf53_11 1 rfl ?_
    refine ev_lv (lv' := [(0, .ref (G.2.2.2.1 t)), (2, .int a2)]) [0, 2] rfl ?_
    refine ev_iload_n dd_J0_indexOf_7cf53_12 1 rfl ?_
    refine ev_lv (lv' := [(0, .ref (G.2.2.2.1 t))]) [0] rfl ?_
    refine ev_aload_n dd_J0_indexOf_7cf53_13 0 rfl ?_
    refine ev_lv (lv' := []) [] rfl ?_
    refine ev_callTI (As := []) cl_RJ0_505 (ct_J0_length_8abf5 l hl G t ht M1) dd_J0_indexOf_7cf53_14 ht (by decide) (Nat.le_of_ble_eq_true rfl) (Nat.le_of_ble_eq_true rfl) rfl rfl (fun r2 M2 => ?_)
    refine ev_callSI (As := [.ref (G.2.2.2.2.1 t), .int a1, .int a2, .int r2]) cl_RJ0_637 (ct_J1_indexOf_4cfef l hl G t ht a1 a2 r2 M2) dd_J0_indexOf_7cf53_17 (by decide) (Nat.le_of_ble_eq_true rfl) (Nat.le_of_ble_eq_true rfl) rfl rfl (fun r3 M3 => ?_)
    refine ev_goto 36 dd_J0_indexOf_7cf53_20 (by decide) ?_
    exact ev_iret dd_J0_indexOf_7cf53_36 rfl (Nat.le_of_ble_eq_true rfl) rfl
/-! J0_indexOf_0f7a4 -/
theorem dd_J0_indexOf_0f7a4_0 : decode Y_J0_indexOf_0f7a4.2.1 0 = .ok (.aload_n 0, 1) := by decide +kernel
theorem dd_J0_indexOf_0f7a4_1 : decode Y_J0_indexOf_0f7a4.2.1 1 = .ok (.iload_n 1, 1) := by decide +kernel
theorem dd_J0_indexOf_0f7a4_2 : decode Y_J0_indexOf_0f7a4.2.1 2 = .ok (.iconst 0, 1) := by decide +kernel
theorem dd_J0_indexOf_0f7a4_3 : decode Y_J0_indexOf_0f7a4.2.1 3 = .ok (.invokevirtual 633, 3) := by decide +kernel
theorem dd_J0_indexOf_0f7a4_6 : decode Y_J0_indexOf_0f7a4.2.1 6 = .ok (.ireturn, 1) := by decide +kernel
def F_J0_indexOf_0f7a4 (t : Nat) (a1 : Int32) (M : zM) : zO := zbI (F_J0_indexOf_7cf53 t a1 0 M) (fun r1 M1 => zI r1 M1)
set_option maxHeartbeats 1000000 in
set_option maxRecDepth 20000 in
theorem ct_J0_indexOf_0f7a4 (l : Launch) (hl : l.stackTraces = false) (G : zG) (t : Nat) (ht : t < zNS) (a1 : Int32) (M : zM) : zMt l G Y_J0_indexOf_0f7a4 10 [.ref (G.2.2.2.1 t), .int a1] M (F_J0_indexOf_0f7a4 t a1 M) := by
  refine zMt_of (by decide +kernel) (Nat.le_of_ble_eq_true rfl) ?_
  show zEv l G Y_J0_indexOf_0f7a4 10 0 0 [(0, .ref (G.2.2.2.1 t)), (1, .int a1)] [] M (zbI (F_J0_indexOf_7cf53 t a1 0 M) (fun r1 M1 => zI r1 M1))
  refine ev_aload_n dd_J0_indexOf_0f7a4_0 0 rfl ?_
  refine ev_lv (lv' := [(1, .int a1)]) [1] rfl ?_
  refine ev_iload_n dd_J0_indexOf_0f7a4_1 0 rfl ?_
  refine ev_lv (lv' := []) [] rfl ?_
  refine ev_iconst (v := 0) dd_J0_indexOf_0f7a4_2 (by decide) ?_
  refine ev_callTI (As := [.int a1, .int 0]) cl_RJ0_633 (ct_J0_indexOf_7cf53 l hl G t ht a1 0 M) dd_J0_indexOf_0f7a4_3 ht (by decide) (Nat.le_of_ble_eq_true rfl) (Nat.le_of_ble_eq_true rfl) rfl rfl (fun r1 M1 => ?_)
  exact ev_iret dd_J0_indexOf_0f7a4_6 rfl (Nat.le_of_ble_eq_true rfl) rfl
/-! J6_bitCount_0f7a4 -/
theorem dd_J6_bitCount_0f7a4_0 : decode Y_J6_bitCount_0f7a4.2.1 0 = .ok (.iload_n 0, 1) := by decide +kernel
theorem dd_J6_bitCount_0f7a4_1 : decode Y_J6_bitCount_0f7a4.2.1 1 = .ok (.iload_n 0, 1) := by decide +kernel
theorem dd_J6_bitCount_0f7a4_2 : decode Y_J6_bitCount_0f7a4.2.1 2 = .ok (.iconst 1, 1) := by decide +kernel
theorem dd_J6_bitCount_0f7a4_3 : decode Y_J6_bitCount_0f7a4.2.1 3 = .ok (.iushr, 1) := by decide +kernel
theorem dd_J6_bitCount_0f7a4_4 : decode Y_J6_bitCount_0f7a4.2.1 4 = .ok (.ldc_w 265, 3) := by decide +kernel
theorem dd_J6_bitCount_0f7a4_7 : decode Y_J6_bitCount_0f7a4.2.1 7 = .ok (.iand, 1) := by decide +kernel
theorem dd_J6_bitCount_0f7a4_8 : decode Y_J6_bitCount_0f7a4.2.1 8 = .ok (.isub, 1) := by decide +kernel
theorem dd_J6_bitCount_0f7a4_9 : decode Y_J6_bitCount_0f7a4.2.1 9 = .ok (.istore_n 0, 1) := by decide +kernel
theorem dd_J6_bitCount_0f7a4_10 : decode Y_J6_bitCount_0f7a4.2.1 10 = .ok (.iload_n 0, 1) := by decide +kernel
theorem dd_J6_bitCount_0f7a4_11 : decode Y_J6_bitCount_0f7a4.2.1 11 = .ok (.ldc_w 266, 3) := by decide +kernel
theorem dd_J6_bitCount_0f7a4_14 : decode Y_J6_bitCount_0f7a4.2.1 14 = .ok (.iand, 1) := by decide +kernel
theorem dd_J6_bitCount_0f7a4_15 : decode Y_J6_bitCount_0f7a4.2.1 15 = .ok (.iload_n 0, 1) := by decide +kernel
theorem dd_J6_bitCount_0f7a4_16 : decode Y_J6_bitCount_0f7a4.2.1 16 = .ok (.iconst 2, 1) := by decide +kernel
theorem dd_J6_bitCount_0f7a4_17 : decode Y_J6_bitCount_0f7a4.2.1 17 = .ok (.iushr, 1) := by decide +kernel
theorem dd_J6_bitCount_0f7a4_18 : decode Y_J6_bitCount_0f7a4.2.1 18 = .ok (.ldc_w 266, 3) := by decide +kernel
theorem dd_J6_bitCount_0f7a4_21 : decode Y_J6_bitCount_0f7a4.2.1 21 = .ok (.iand, 1) := by decide +kernel
theorem dd_J6_bitCount_0f7a4_22 : decode Y_J6_bitCount_0f7a4.2.1 22 = .ok (.iadd, 1) := by decide +kernel
theorem dd_J6_bitCount_0f7a4_23 : decode Y_J6_bitCount_0f7a4.2.1 23 = .ok (.istore_n 0, 1) := by decide +kernel
theorem dd_J6_bitCount_0f7a4_24 : decode Y_J6_bitCount_0f7a4.2.1 24 = .ok (.iload_n 0, 1) := by decide +kernel
theorem dd_J6_bitCount_0f7a4_25 : decode Y_J6_bitCount_0f7a4.2.1 25 = .ok (.iload_n 0, 1) := by decide +kernel
theorem dd_J6_bitCount_0f7a4_26 : decode Y_J6_bitCount_0f7a4.2.1 26 = .ok (.iconst 4, 1) := by decide +kernel
theorem dd_J6_bitCount_0f7a4_27 : decode Y_J6_bitCount_0f7a4.2.1 27 = .ok (.iushr, 1) := by decide +kernel
theorem dd_J6_bitCount_0f7a4_28 : decode Y_J6_bitCount_0f7a4.2.1 28 = .ok (.iadd, 1) := by decide +kernel
theorem dd_J6_bitCount_0f7a4_29 : decode Y_J6_bitCount_0f7a4.2.1 29 = .ok (.ldc_w 267, 3) := by decide +kernel
theorem dd_J6_bitCount_0f7a4_32 : decode Y_J6_bitCount_0f7a4.2.1 32 = .ok (.iand, 1) := by decide +kernel
theorem dd_J6_bitCount_0f7a4_33 : decode Y_J6_bitCount_0f7a4.2.1 33 = .ok (.istore_n 0, 1) := by decide +kernel
theorem dd_J6_bitCount_0f7a4_34 : decode Y_J6_bitCount_0f7a4.2.1 34 = .ok (.iload_n 0, 1) := by decide +kernel
theorem dd_J6_bitCount_0f7a4_35 : decode Y_J6_bitCount_0f7a4.2.1 35 = .ok (.iload_n 0, 1) := by decide +kernel
theorem dd_J6_bitCount_0f7a4_36 : decode Y_J6_bitCount_0f7a4.2.1 36 = .ok (.bipush 8, 2) := by decide +kernel
theorem dd_J6_bitCount_0f7a4_38 : decode Y_J6_bitCount_0f7a4.2.1 38 = .ok (.iushr, 1) := by decide +kernel
theorem dd_J6_bitCount_0f7a4_39 : decode Y_J6_bitCount_0f7a4.2.1 39 = .ok (.iadd, 1) := by decide +kernel
theorem dd_J6_bitCount_0f7a4_40 : decode Y_J6_bitCount_0f7a4.2.1 40 = .ok (.istore_n 0, 1) := by decide +kernel
theorem dd_J6_bitCount_0f7a4_41 : decode Y_J6_bitCount_0f7a4.2.1 41 = .ok (.iload_n 0, 1) := by decide +kernel
theorem dd_J6_bitCount_0f7a4_42 : decode Y_J6_bitCount_0f7a4.2.1 42 = .ok (.iload_n 0, 1) := by decide +kernel
theorem dd_J6_bitCount_0f7a4_43 : decode Y_J6_bitCount_0f7a4.2.1 43 = .ok (.bipush 16, 2) := by decide +kernel
theorem dd_J6_bitCount_0f7a4_45 : decode Y_J6_bitCount_0f7a4.2.1 45 = .ok (.iushr, 1) := by decide +kernel
theorem dd_J6_bitCount_0f7a4_46 : decode Y_J6_bitCount_0f7a4.2.1 46 = .ok (.iadd, 1) := by decide +kernel
theorem dd_J6_bitCount_0f7a4_47 : decode Y_J6_bitCount_0f7a4.2.1 47 = .ok (.istore_n 0, 1) := by decide +kernel
theorem dd_J6_bitCount_0f7a4_48 : decode Y_J6_bitCount_0f7a4.2.1 48 = .ok (.iload_n 0, 1) := by decide +kernel
theorem dd_J6_bitCount_0f7a4_49 : decode Y_J6_bitCount_0f7a4.2.1 49 = .ok (.bipush 63, 2) := by decide +kernel
theorem dd_J6_bitCount_0f7a4_51 : decode Y_J6_bitCount_0f7a4.2.1 51 = .ok (.iand, 1) := by decide +kernel
theorem dd_J6_bitCount_0f7a4_52 : decode Y_J6_bitCount_0f7a4.2.1 52 = .ok (.ireturn, 1) := by decide +kernel
def F_J6_bitCount_0f7a4 (a0 : Int32) (M : zM) : zO := zlt (a0 - (((a0.toUInt32 >>> ((1 : Int32).toUInt32 &&& Int32.toUInt32 31)).toInt32) &&& 1431655765)) (fun v1 => zlt ((v1 &&& 858993459) + (((v1.toUInt32 >>> ((2 : Int32).toUInt32 &&& Int32.toUInt32 31)).toInt32) &&& 858993459)) (fun v2 => zlt ((v2 + ((v2.toUInt32 >>> ((4 : Int32).toUInt32 &&& Int32.toUInt32 31)).toInt32)) &&& 252645135) (fun v3 => zlt (v3 + ((v3.toUInt32 >>> ((8 : Int32).toUInt32 &&& Int32.toUInt32 31)).toInt32)) (fun v4 => zlt (v4 + ((v4.toUInt32 >>> ((16 : Int32).toUInt32 &&& Int32.toUInt32 31)).toInt32)) (fun v5 => zI (v5 &&& 63) M)))))
set_option maxHeartbeats 1000000 in
set_option maxRecDepth 20000 in
theorem ct_J6_bitCount_0f7a4 (l : Launch) (hl : l.stackTraces = false) (G : zG) (a0 : Int32) (M : zM) : zMt l G Y_J6_bitCount_0f7a4 1 [.int a0] M (F_J6_bitCount_0f7a4 a0 M) := by
  refine zMt_of (by decide +kernel) (Nat.le_of_ble_eq_true rfl) ?_
  show zEv l G Y_J6_bitCount_0f7a4 1 0 0 [(0, .int a0)] [] M (zlt (a0 - (((a0.toUInt32 >>> ((1 : Int32).toUInt32 &&& Int32.toUInt32 31)).toInt32) &&& 1431655765)) (fun v1 => zlt ((v1 &&& 858993459) + (((v1.toUInt32 >>> ((2 : Int32).toUInt32 &&& Int32.toUInt32 31)).toInt32) &&& 858993459)) (fun v2 => zlt ((v2 + ((v2.toUInt32 >>> ((4 : Int32).toUInt32 &&& Int32.toUInt32 31)).toInt32)) &&& 252645135) (fun v3 => zlt (v3 + ((v3.toUInt32 >>> ((8 : Int32).toUInt32 &&& Int32.toUInt32 31)).toInt32)) (fun v4 => zlt (v4 + ((v4.toUInt32 >>> ((16 : Int32).toUInt32 &&& Int32.toUInt32 31)).toInt32)) (fun v5 => zI (v5 &&& 63) M))))))
  refine ev_iload_n dd_J6_bitCount_0f7a4_0 0 rfl ?_
  refine ev_iload_n dd_J6_bitCount_0f7a4_1 0 rfl ?_
  refine ev_lv (lv' := []) [] rfl ?_
  refine ev_iconst (v := 1) dd_J6_bitCount_0f7a4_2 (by decide) ?_
  refine ev_iushr dd_J6_bitCount_0f7a4_3 ?_
  refine ev_ldcw (v := 1431655765) dd_J6_bitCount_0f7a4_4 wk_RJ6_265 ?_
  refine ev_iand dd_J6_bitCount_0f7a4_7 ?_
  refine ev_isub dd_J6_bitCount_0f7a4_8 ?_
  refine ev_topi (fun v1 => ?_)
  refine ev_istore_n (i := 0) (lv' := [(0, .int v1)]) [0] dd_J6_bitCount_0f7a4_9 rfl (by decide) rfl ?_
  refine ev_iload_n dd_J6_bitCount_0f7a4_10 0 rfl ?_
  refine ev_ldcw (v := 858993459) dd_J6_bitCount_0f7a4_11 wk_RJ6_266 ?_
  refine ev_iand dd_J6_bitCount_0f7a4_14 ?_
  refine ev_iload_n dd_J6_bitCount_0f7a4_15 0 rfl ?_
  refine ev_lv (lv' := []) [] rfl ?_
  refine ev_iconst (v := 2) dd_J6_bitCount_0f7a4_16 (by decide) ?_
  refine ev_iushr dd_J6_bitCount_0f7a4_17 ?_
  refine ev_ldcw (v := 858993459) dd_J6_bitCount_0f7a4_18 wk_RJ6_266 ?_
  refine ev_iand dd_J6_bitCount_0f7a4_21 ?_
  refine ev_iadd dd_J6_bitCount_0f7a4_22 ?_
  refine ev_topi (fun v2 => ?_)
  refine ev_istore_n (i := 0) (lv' := [(0, .int v2)]) [0] dd_J6_bitCount_0f7a4_23 rfl (by decide) rfl ?_
  refine ev_iload_n dd_J6_bitCount_0f7a4_24 0 rfl ?_
  refine ev_iload_n dd_J6_bitCount_0f7a4_25 0 rfl ?_
  refine ev_lv (lv' := []) [] rfl ?_
  refine ev_iconst (v := 4) dd_J6_bitCount_0f7a4_26 (by decide) ?_
  refine ev_iushr dd_J6_bitCount_0f7a4_27 ?_
  refine ev_iadd dd_J6_bitCount_0f7a4_28 ?_
  refine ev_ldcw (v := 252645135) dd_J6_bitCount_0f7a4_29 wk_RJ6_267 ?_
  refine ev_iand dd_J6_bitCount_0f7a4_32 ?_
  refine ev_topi (fun v3 => ?_)
  refine ev_istore_n (i := 0) (lv' := [(0, .int v3)]) [0] dd_J6_bitCount_0f7a4_33 rfl (by decide) rfl ?_
  refine ev_iload_n dd_J6_bitCount_0f7a4_34 0 rfl ?_
  refine ev_iload_n dd_J6_bitCount_0f7a4_35 0 rfl ?_
  refine ev_lv (lv' := []) [] rfl ?_
  refine ev_bipush (v := 8) dd_J6_bitCount_0f7a4_36 (by decide) ?_
  refine ev_iushr dd_J6_bitCount_0f7a4_38 ?_
  refine ev_iadd dd_J6_bitCount_0f7a4_39 ?_
  refine ev_topi (fun v4 => ?_)
  refine ev_istore_n (i := 0) (lv' := [(0, .int v4)]) [0] dd_J6_bitCount_0f7a4_40 rfl (by decide) rfl ?_
  refine ev_iload_n dd_J6_bitCount_0f7a4_41 0 rfl ?_
  refine ev_iload_n dd_J6_bitCount_0f7a4_42 0 rfl ?_
  refine ev_lv (lv' := []) [] rfl ?_
  refine ev_bipush (v := 16) dd_J6_bitCount_0f7a4_43 (by decide) ?_
  refine ev_iushr dd_J6_bitCount_0f7a4_45 ?_
  refine ev_iadd dd_J6_bitCount_0f7a4_46 ?_
  refine ev_topi (fun v5 => ?_)
  refine ev_istore_n (i := 0) (lv' := [(0, .int v5)]) [0] dd_J6_bitCount_0f7a4_47 rfl (by decide) rfl ?_
  refine ev_iload_n dd_J6_bitCount_0f7a4_48 0 rfl ?_
  refine ev_lv (lv' := []) [] rfl ?_
  refine ev_bipush (v := 63) dd_J6_bitCount_0f7a4_49 (by decide) ?_
  refine ev_iand dd_J6_bitCount_0f7a4_51 ?_
  exact ev_iret dd_J6_bitCount_0f7a4_52 rfl (Nat.le_of_ble_eq_true rfl) rfl
/-! J7_fill_031fb -/
theorem dd_J7_fill_031fb_0 : decode Y_J7_fill_031fb.2.1 0 = .ok (.iconst 0, 1) := by decide +kernel
theorem dd_J7_fill_031fb_1 : decode Y_J7_fill_031fb.2.1 1 = .ok (.istore_n 2, 1) := by decide +kernel
theorem dd_J7_fill_031fb_2 : decode Y_J7_fill_031fb.2.1 2 = .ok (.aload_n 0, 1) := by decide +kernel
theorem dd_J7_fill_031fb_3 : decode Y_J7_fill_031fb.2.1 3 = .ok (.arraylength, 1) := by decide +kernel
theorem dd_J7_fill_031fb_4 : decode Y_J7_fill_031fb.2.1 4 = .ok (.istore_n 3, 1) := by decide +kernel
theorem dd_J7_fill_031fb_5 : decode Y_J7_fill_031fb.2.1 5 = .ok (.iload_n 2, 1) := by decide +kernel
theorem dd_J7_fill_031fb_6 : decode Y_J7_fill_031fb.2.1 6 = .ok (.iload_n 3, 1) := by decide +kernel
theorem dd_J7_fill_031fb_7 : decode Y_J7_fill_031fb.2.1 7 = .ok (.if_icmp .ge 13, 3) := by decide +kernel
theorem dd_J7_fill_031fb_10 : decode Y_J7_fill_031fb.2.1 10 = .ok (.aload_n 0, 1) := by decide +kernel
theorem dd_J7_fill_031fb_11 : decode Y_J7_fill_031fb.2.1 11 = .ok (.iload_n 2, 1) := by decide +kernel
theorem dd_J7_fill_031fb_12 : decode Y_J7_fill_031fb.2.1 12 = .ok (.iload_n 1, 1) := by decide +kernel
theorem dd_J7_fill_031fb_13 : decode Y_J7_fill_031fb.2.1 13 = .ok (.bastore, 1) := by decide +kernel
theorem dd_J7_fill_031fb_14 : decode Y_J7_fill_031fb.2.1 14 = .ok (.iinc 2 1, 3) := by decide +kernel
theorem dd_J7_fill_031fb_17 : decode Y_J7_fill_031fb.2.1 17 = .ok (.goto (-12), 3) := by decide +kernel
theorem dd_J7_fill_031fb_20 : decode Y_J7_fill_031fb.2.1 20 = .ok (.return_, 1) := by decide +kernel
def F_J7_fill_031fb_L5 (x0 : Nat) (x1 : Int32) (x3 : Int32) (K20 : zM → zO) : Nat → Int32 → zM → zO
  | 0, _, _ => none
  | n + 1, x2, M => zit (x3 ≤ x2) (K20 M) (zck (zin x2 (zal x0)) (zst (zup M x0 (zix x2) x1.toInt8.toInt32) (fun M1 => F_J7_fill_031fb_L5 x0 x1 x3 K20 n (x2 + 1) M1)))
def F_J7_fill_031fb (a0 : Nat) (a1 : Int32) (M : zM) : zO := zlt (Int32.ofNat (zal a0)) (fun v1 => F_J7_fill_031fb_L5 a0 a1 v1 (fun  (M2 : zM) => zV M2) zN 0 M)
set_option maxHeartbeats 1000000 in
set_option maxRecDepth 20000 in
theorem ct_J7_fill_031fb_L5 (l : Launch) (hl : l.stackTraces = false) (G : zG) (x0 : Nat) (hx0 : zsh x0 = 21) (x1 : Int32) (x3 : Int32) (K20 : zM → zO) (hK20 : ∀  (M : zM), zEv l G Y_J7_fill_031fb 1 0 20 [] [] M (K20 M)) : ∀ (n : Nat) (x2 : Int32) (M : zM), zEv l G Y_J7_fill_031fb 1 0 5 [(0, .ref (G.2.1 + x0)), (1, .int x1), (2, .int x2), (3, .int x3)] [] M (F_J7_fill_031fb_L5 x0 x1 x3 K20 n x2 M) := by
  intro n
  induction n with
  | zero => intro x2 M; exact ev_none
  | succ n ih =>
    intro x2 M
    show zEv l G Y_J7_fill_031fb 1 0 5 [(0, .ref (G.2.1 + x0)), (1, .int x1), (2, .int x2), (3, .int x3)] [] M (zit (x3 ≤ x2) (K20 M) (zck (zin x2 (zal x0)) (zst (zup M x0 (zix x2) x1.toInt8.toInt32) (fun M1 => F_J7_fill_031fb_L5 x0 x1 x3 K20 n (x2 + 1) M1))))
    refine ev_iload_n dd_J7_fill_031fb_5 2 rfl ?_
    refine ev_iload_n dd_J7_fill_031fb_6 3 rfl ?_
    refine ev_icmp_ge 20 dd_J7_fill_031fb_7 (by decide) ?_ ?_
    · refine ev_lv (lv' := []) [] rfl ?_
      exact hK20 _
    · refine ev_aload_n dd_J7_fill_031fb_10 0 rfl ?_
      refine ev_iload_n dd_J7_fill_031fb_11 2 rfl ?_
      refine ev_iload_n dd_J7_fill_031fb_12 1 rfl ?_
      refine ev_bast dd_J7_fill_031fb_13 hx0 rfl ?_
      refine ev_st (fun M1 => ?_)
      refine ev_iinc (j := 2) (v := 1) (lv' := [(0, .ref (G.2.1 + x0)), (1, .int x1), (2, .int (x2 + 1)), (3, .int x3)]) [1, 2, 0, 3] dd_J7_fill_031fb_14 rfl (by decide) (by decide) rfl ?_
      refine ev_goto 5 dd_J7_fill_031fb_17 (by decide) ?_
      exact ih _ _
set_option maxHeartbeats 1000000 in
set_option maxRecDepth 20000 in
theorem ct_J7_fill_031fb (l : Launch) (hl : l.stackTraces = false) (G : zG) (a0 : Nat) (ha0 : zsh a0 = 21) (a1 : Int32) (M : zM) : zMt l G Y_J7_fill_031fb 1 [.ref (G.2.1 + a0), .int a1] M (F_J7_fill_031fb a0 a1 M) := by
  refine zMt_of (by decide +kernel) (Nat.le_of_ble_eq_true rfl) ?_
  show zEv l G Y_J7_fill_031fb 1 0 0 [(0, .ref (G.2.1 + a0)), (1, .int a1)] [] M (zlt (Int32.ofNat (zal a0)) (fun v1 => F_J7_fill_031fb_L5 a0 a1 v1 (fun  (M2 : zM) => zV M2) zN 0 M))
  refine ev_iconst (v := 0) dd_J7_fill_031fb_0 (by decide) ?_
  refine ev_istore_n (i := 2) (lv' := [(0, .ref (G.2.1 + a0)), (1, .int a1), (2, .int 0)]) [1, 2, 0] dd_J7_fill_031fb_1 rfl (by decide) rfl ?_
  refine ev_aload_n dd_J7_fill_031fb_2 0 rfl ?_
  refine ev_alen (v := Int32.ofNat (zal a0)) dd_J7_fill_031fb_3 ha0 (Or.inr rfl) rfl rfl ?_
  refine ev_topi (fun v1 => ?_)
  refine ev_istore_n (i := 3) (lv' := [(0, .ref (G.2.1 + a0)), (1, .int a1), (2, .int 0), (3, .int v1)]) [1, 2, 3, 0] dd_J7_fill_031fb_4 rfl (by decide) rfl ?_
  refine ct_J7_fill_031fb_L5 l hl G a0 ha0 a1 v1 _ (fun M2 => ?_) zN _ _
  exact ev_vret dd_J7_fill_031fb_20 rfl (Nat.le_of_ble_eq_true rfl) rfl
/-! J7_fill_53178 -/
theorem dd_J7_fill_53178_0 : decode Y_J7_fill_53178.2.1 0 = .ok (.iconst 0, 1) := by decide +kernel
theorem dd_J7_fill_53178_1 : decode Y_J7_fill_53178.2.1 1 = .ok (.istore_n 2, 1) := by decide +kernel
theorem dd_J7_fill_53178_2 : decode Y_J7_fill_53178.2.1 2 = .ok (.aload_n 0, 1) := by decide +kernel
theorem dd_J7_fill_53178_3 : decode Y_J7_fill_53178.2.1 3 = .ok (.arraylength, 1) := by decide +kernel
theorem dd_J7_fill_53178_4 : decode Y_J7_fill_53178.2.1 4 = .ok (.istore_n 3, 1) := by decide +kernel
theorem dd_J7_fill_53178_5 : decode Y_J7_fill_53178.2.1 5 = .ok (.iload_n 2, 1) := by decide +kernel
theorem dd_J7_fill_53178_6 : decode Y_J7_fill_53178.2.1 6 = .ok (.iload_n 3, 1) := by decide +kernel
theorem dd_J7_fill_53178_7 : decode Y_J7_fill_53178.2.1 7 = .ok (.if_icmp .ge 13, 3) := by decide +kernel
theorem dd_J7_fill_53178_10 : decode Y_J7_fill_53178.2.1 10 = .ok (.aload_n 0, 1) := by decide +kernel
theorem dd_J7_fill_53178_11 : decode Y_J7_fill_53178.2.1 11 = .ok (.iload_n 2, 1) := by decide +kernel
theorem dd_J7_fill_53178_12 : decode Y_J7_fill_53178.2.1 12 = .ok (.iload_n 1, 1) := by decide +kernel
theorem dd_J7_fill_53178_13 : decode Y_J7_fill_53178.2.1 13 = .ok (.iastore, 1) := by decide +kernel
theorem dd_J7_fill_53178_14 : decode Y_J7_fill_53178.2.1 14 = .ok (.iinc 2 1, 3) := by decide +kernel
theorem dd_J7_fill_53178_17 : decode Y_J7_fill_53178.2.1 17 = .ok (.goto (-12), 3) := by decide +kernel
theorem dd_J7_fill_53178_20 : decode Y_J7_fill_53178.2.1 20 = .ok (.return_, 1) := by decide +kernel
def F_J7_fill_53178_L5 (x0 : Nat) (x1 : Int32) (x3 : Int32) (K20 : zM → zO) : Nat → Int32 → zM → zO
  | 0, _, _ => none
  | n + 1, x2, M => zit (x3 ≤ x2) (K20 M) (zck (zin x2 (zal x0)) (zst (zup M x0 (zix x2) x1) (fun M1 => F_J7_fill_53178_L5 x0 x1 x3 K20 n (x2 + 1) M1)))
def F_J7_fill_53178 (a0 : Nat) (a1 : Int32) (M : zM) : zO := zlt (Int32.ofNat (zal a0)) (fun v1 => F_J7_fill_53178_L5 a0 a1 v1 (fun  (M2 : zM) => zV M2) zN 0 M)
set_option maxHeartbeats 1000000 in
set_option maxRecDepth 20000 in
theorem ct_J7_fill_53178_L5 (l : Launch) (hl : l.stackTraces = false) (G : zG) (x0 : Nat) (hx0 : zsh x0 = 20) (x1 : Int32) (x3 : Int32) (K20 : zM → zO) (hK20 : ∀  (M : zM), zEv l G Y_J7_fill_53178 1 0 20 [] [] M (K20 M)) : ∀ (n : Nat) (x2 : Int32) (M : zM), zEv l G Y_J7_fill_53178 1 0 5 [(0, .ref (G.2.1 + x0)), (1, .int x1), (2, .int x2), (3, .int x3)] [] M (F_J7_fill_53178_L5 x0 x1 x3 K20 n x2 M) := by
  intro n
  induction n with
  | zero => intro x2 M; exact ev_none
  | succ n ih =>
    intro x2 M
    show zEv l G Y_J7_fill_53178 1 0 5 [(0, .ref (G.2.1 + x0)), (1, .int x1), (2, .int x2), (3, .int x3)] [] M (zit (x3 ≤ x2) (K20 M) (zck (zin x2 (zal x0)) (zst (zup M x0 (zix x2) x1) (fun M1 => F_J7_fill_53178_L5 x0 x1 x3 K20 n (x2 + 1) M1))))
    refine ev_iload_n dd_J7_fill_53178_5 2 rfl ?_
    refine ev_iload_n dd_J7_fill_53178_6 3 rfl ?_
    refine ev_icmp_ge 20 dd_J7_fill_53178_7 (by decide) ?_ ?_
    · refine ev_lv (lv' := []) [] rfl ?_
      exact hK20 _
    · refine ev_aload_n dd_J7_fill_53178_10 0 rfl ?_
      refine ev_iload_n dd_J7_fill_53178_11 2 rfl ?_
      refine ev_iload_n dd_J7_fill_53178_12 1 rfl ?_
      refine ev_iast dd_J7_fill_53178_13 hx0 rfl ?_
      refine ev_st (fun M1 => ?_)
      refine ev_iinc (j := 2) (v := 1) (lv' := [(0, .ref (G.2.1 + x0)), (1, .int x1), (2, .int (x2 + 1)), (3, .int x3)]) [1, 2, 0, 3] dd_J7_fill_53178_14 rfl (by decide) (by decide) rfl ?_
      refine ev_goto 5 dd_J7_fill_53178_17 (by decide) ?_
      exact ih _ _
set_option maxHeartbeats 1000000 in
set_option maxRecDepth 20000 in
theorem ct_J7_fill_53178 (l : Launch) (hl : l.stackTraces = false) (G : zG) (a0 : Nat) (ha0 : zsh a0 = 20) (a1 : Int32) (M : zM) : zMt l G Y_J7_fill_53178 1 [.ref (G.2.1 + a0), .int a1] M (F_J7_fill_53178 a0 a1 M) := by
  refine zMt_of (by decide +kernel) (Nat.le_of_ble_eq_true rfl) ?_
  show zEv l G Y_J7_fill_53178 1 0 0 [(0, .ref (G.2.1 + a0)), (1, .int a1)] [] M (zlt (Int32.ofNat (zal a0)) (fun v1 => F_J7_fill_53178_L5 a0 a1 v1 (fun  (M2 : zM) => zV M2) zN 0 M))
  refine ev_iconst (v := 0) dd_J7_fill_53178_0 (by decide) ?_
  refine ev_istore_n (i := 2) (lv' := [(0, .ref (G.2.1 + a0)), (1, .int a1), (2, .int 0)]) [1, 2, 0] dd_J7_fill_53178_1 rfl (by decide) rfl ?_
  refine ev_aload_n dd_J7_fill_53178_2 0 rfl ?_
  refine ev_alen (v := Int32.ofNat (zal a0)) dd_J7_fill_53178_3 ha0 (Or.inl rfl) rfl rfl ?_
  refine ev_topi (fun v1 => ?_)
  refine ev_istore_n (i := 3) (lv' := [(0, .ref (G.2.1 + a0)), (1, .int a1), (2, .int 0), (3, .int v1)]) [1, 2, 3, 0] dd_J7_fill_53178_4 rfl (by decide) rfl ?_
  refine ct_J7_fill_53178_L5 l hl G a0 ha0 a1 v1 _ (fun M2 => ?_) zN _ _
  exact ev_vret dd_J7_fill_53178_20 rfl (Nat.le_of_ble_eq_true rfl) rfl
/-! X0_add -/
theorem dd_X0_add_0 : decode Y_X0_add.2.1 0 = .ok (.aload_n 0, 1) := by decide +kernel
theorem dd_X0_add_1 : decode Y_X0_add.2.1 1 = .ok (.getfield 21, 3) := by decide +kernel
theorem dd_X0_add_4 : decode Y_X0_add.2.1 4 = .ok (.sipush 700, 3) := by decide +kernel
theorem dd_X0_add_7 : decode Y_X0_add.2.1 7 = .ok (.if_icmp .ge 23, 3) := by decide +kernel
theorem dd_X0_add_10 : decode Y_X0_add.2.1 10 = .ok (.aload_n 0, 1) := by decide +kernel
theorem dd_X0_add_11 : decode Y_X0_add.2.1 11 = .ok (.getfield 15, 3) := by decide +kernel
theorem dd_X0_add_14 : decode Y_X0_add.2.1 14 = .ok (.aload_n 0, 1) := by decide +kernel
theorem dd_X0_add_15 : decode Y_X0_add.2.1 15 = .ok (.getfield 21, 3) := by decide +kernel
theorem dd_X0_add_18 : decode Y_X0_add.2.1 18 = .ok (.iload_n 1, 1) := by decide +kernel
theorem dd_X0_add_19 : decode Y_X0_add.2.1 19 = .ok (.iastore, 1) := by decide +kernel
theorem dd_X0_add_20 : decode Y_X0_add.2.1 20 = .ok (.aload_n 0, 1) := by decide +kernel
theorem dd_X0_add_21 : decode Y_X0_add.2.1 21 = .ok (.dup, 1) := by decide +kernel
theorem dd_X0_add_22 : decode Y_X0_add.2.1 22 = .ok (.getfield 21, 3) := by decide +kernel
theorem dd_X0_add_25 : decode Y_X0_add.2.1 25 = .ok (.iconst 1, 1) := by decide +kernel
theorem dd_X0_add_26 : decode Y_X0_add.2.1 26 = .ok (.iadd, 1) := by decide +kernel
theorem dd_X0_add_27 : decode Y_X0_add.2.1 27 = .ok (.putfield 21, 3) := by decide +kernel
theorem dd_X0_add_30 : decode Y_X0_add.2.1 30 = .ok (.return_, 1) := by decide +kernel
def F_X0_add (t : Nat) (a1 : Int32) (M : zM) : zO := zjo (fun  (M3 : zM) => zV M3) (fun (k1 : zM → zO) => zit (700 ≤ (M t 3)) (k1 M) (zck (zin (M t 3) 700) (zst (zup M (zgr t 1) (zix (M t 3)) a1) (fun M1 => zst (zup M1 t 3 ((M1 t 3) + 1)) (fun M2 => k1 M2)))))
set_option maxHeartbeats 1000000 in
set_option maxRecDepth 20000 in
theorem ct_X0_add (l : Launch) (hl : l.stackTraces = false) (G : zG) (t : Nat) (ht : zsh t = 0) (a1 : Int32) (M : zM) : zMt l G Y_X0_add 1 [.ref (G.2.1 + t), .int a1] M (F_X0_add t a1 M) := by
  refine zMt_of (by decide +kernel) (Nat.le_of_ble_eq_true rfl) ?_
  show zEv l G Y_X0_add 1 0 0 [(0, .ref (G.2.1 + t)), (1, .int a1)] [] M (zjo (fun  (M3 : zM) => zV M3) (fun (k1 : zM → zO) => zit (700 ≤ (M t 3)) (k1 M) (zck (zin (M t 3) 700) (zst (zup M (zgr t 1) (zix (M t 3)) a1) (fun M1 => zst (zup M1 t 3 ((M1 t 3) + 1)) (fun M2 => k1 M2))))))
  refine ev_aload_n dd_X0_add_0 0 rfl ?_
  refine ev_getI gf_RX0_21 dd_X0_add_1 ht (by decide) ?_
  refine ev_sipush (v := 700) dd_X0_add_4 (by decide) ?_
  refine ev_jo (fun (k1 : zM → zO) => ∀  (M3 : zM), zEv l G Y_X0_add 1 0 30 [] [] M3 (k1 M3)) ?_ (fun k1 hk1 => ?_)
  · intro M3
    exact ev_vret dd_X0_add_30 rfl (Nat.le_of_ble_eq_true rfl) rfl
  · refine ev_icmp_ge 30 dd_X0_add_7 (by decide) ?_ ?_
    · refine ev_lv (lv' := []) [] rfl ?_
      exact hk1 _
    · refine ev_aload_n dd_X0_add_10 0 rfl ?_
      refine ev_getR gf_RX0_15 dd_X0_add_11 ht (by decide) ?_
      refine ev_aload_n dd_X0_add_14 0 rfl ?_
      refine ev_getI gf_RX0_21 dd_X0_add_15 ht (by decide) ?_
      refine ev_iload_n dd_X0_add_18 1 rfl ?_
      refine ev_lv (lv' := [(0, .ref (G.2.1 + t))]) [0] rfl ?_
      refine ev_iast dd_X0_add_19 ((zg_0_1 ht).1) ((zg_0_1 ht).2) ?_
      refine ev_st (fun M1 => ?_)
      refine ev_aload_n dd_X0_add_20 0 rfl ?_
      refine ev_lv (lv' := []) [] rfl ?_
      refine ev_dup dd_X0_add_21 rfl ?_
      refine ev_getI gf_RX0_21 dd_X0_add_22 ht (by decide) ?_
      refine ev_iconst (v := 1) dd_X0_add_25 (by decide) ?_
      refine ev_iadd dd_X0_add_26 ?_
      refine ev_putI gw_RX0_21 dd_X0_add_27 ht (by decide) ?_
      refine ev_st (fun M2 => ?_)
      exact hk1 _
/-! X0_clear -/
theorem dd_X0_clear_0 : decode Y_X0_clear.2.1 0 = .ok (.aload_n 0, 1) := by decide +kernel
theorem dd_X0_clear_1 : decode Y_X0_clear.2.1 1 = .ok (.iconst 0, 1) := by decide +kernel
theorem dd_X0_clear_2 : decode Y_X0_clear.2.1 2 = .ok (.putfield 21, 3) := by decide +kernel
theorem dd_X0_clear_5 : decode Y_X0_clear.2.1 5 = .ok (.aload_n 0, 1) := by decide +kernel
theorem dd_X0_clear_6 : decode Y_X0_clear.2.1 6 = .ok (.iconst 0, 1) := by decide +kernel
theorem dd_X0_clear_7 : decode Y_X0_clear.2.1 7 = .ok (.putfield 25, 3) := by decide +kernel
theorem dd_X0_clear_10 : decode Y_X0_clear.2.1 10 = .ok (.return_, 1) := by decide +kernel
def F_X0_clear (t : Nat) (M : zM) : zO := zst (zup M t 3 0) (fun M1 => zck (zbo 0) (zst (zup M1 t 4 0) (fun M2 => zV M2)))
set_option maxHeartbeats 1000000 in
set_option maxRecDepth 20000 in
theorem ct_X0_clear (l : Launch) (hl : l.stackTraces = false) (G : zG) (t : Nat) (ht : zsh t = 0) (M : zM) : zMt l G Y_X0_clear 1 [.ref (G.2.1 + t)] M (F_X0_clear t M) := by
  refine zMt_of (by decide +kernel) (Nat.le_of_ble_eq_true rfl) ?_
  show zEv l G Y_X0_clear 1 0 0 [(0, .ref (G.2.1 + t))] [] M (zst (zup M t 3 0) (fun M1 => zck (zbo 0) (zst (zup M1 t 4 0) (fun M2 => zV M2))))
  refine ev_aload_n dd_X0_clear_0 0 rfl ?_
  refine ev_iconst (v := 0) dd_X0_clear_1 (by decide) ?_
  refine ev_putI gw_RX0_21 dd_X0_clear_2 ht (by decide) ?_
  refine ev_st (fun M1 => ?_)
  refine ev_aload_n dd_X0_clear_5 0 rfl ?_
  refine ev_lv (lv' := []) [] rfl ?_
  refine ev_iconst (v := 0) dd_X0_clear_6 (by decide) ?_
  refine ev_putZ gw_RX0_25 dd_X0_clear_7 ht (by decide) ?_
  refine ev_st (fun M2 => ?_)
  exact ev_vret dd_X0_clear_10 rfl (Nat.le_of_ble_eq_true rfl) rfl
/-! X0_combine -/
theorem dd_X0_combine_0 : decode Y_X0_combine.2.1 0 = .ok (.iload_n 0, 1) := by decide +kernel
theorem dd_X0_combine_1 : decode Y_X0_combine.2.1 1 = .ok (.tableswitch 103 (-17) (-11) #[89, 78, 67, 55, 51, 47, 43], 43) := by decide +kernel
theorem dd_X0_combine_44 : decode Y_X0_combine.2.1 44 = .ok (.iload_n 1, 1) := by decide +kernel
theorem dd_X0_combine_45 : decode Y_X0_combine.2.1 45 = .ok (.iload_n 2, 1) := by decide +kernel
theorem dd_X0_combine_46 : decode Y_X0_combine.2.1 46 = .ok (.iadd, 1) := by decide +kernel
theorem dd_X0_combine_47 : decode Y_X0_combine.2.1 47 = .ok (.ireturn, 1) := by decide +kernel
theorem dd_X0_combine_48 : decode Y_X0_combine.2.1 48 = .ok (.iload_n 1, 1) := by decide +kernel
theorem dd_X0_combine_49 : decode Y_X0_combine.2.1 49 = .ok (.iload_n 2, 1) := by decide +kernel
theorem dd_X0_combine_50 : decode Y_X0_combine.2.1 50 = .ok (.isub, 1) := by decide +kernel
theorem dd_X0_combine_51 : decode Y_X0_combine.2.1 51 = .ok (.ireturn, 1) := by decide +kernel
theorem dd_X0_combine_52 : decode Y_X0_combine.2.1 52 = .ok (.iload_n 1, 1) := by decide +kernel
theorem dd_X0_combine_53 : decode Y_X0_combine.2.1 53 = .ok (.iload_n 2, 1) := by decide +kernel
theorem dd_X0_combine_54 : decode Y_X0_combine.2.1 54 = .ok (.imul, 1) := by decide +kernel
theorem dd_X0_combine_55 : decode Y_X0_combine.2.1 55 = .ok (.ireturn, 1) := by decide +kernel
theorem dd_X0_combine_56 : decode Y_X0_combine.2.1 56 = .ok (.iload_n 2, 1) := by decide +kernel
theorem dd_X0_combine_57 : decode Y_X0_combine.2.1 57 = .ok (.ifCond .ne 7, 3) := by decide +kernel
theorem dd_X0_combine_60 : decode Y_X0_combine.2.1 60 = .ok (.iconst 0, 1) := by decide +kernel
theorem dd_X0_combine_61 : decode Y_X0_combine.2.1 61 = .ok (.goto 6, 3) := by decide +kernel
theorem dd_X0_combine_64 : decode Y_X0_combine.2.1 64 = .ok (.iload_n 1, 1) := by decide +kernel
theorem dd_X0_combine_65 : decode Y_X0_combine.2.1 65 = .ok (.iload_n 2, 1) := by decide +kernel
theorem dd_X0_combine_66 : decode Y_X0_combine.2.1 66 = .ok (.idiv, 1) := by decide +kernel
theorem dd_X0_combine_67 : decode Y_X0_combine.2.1 67 = .ok (.ireturn, 1) := by decide +kernel
theorem dd_X0_combine_68 : decode Y_X0_combine.2.1 68 = .ok (.iload_n 1, 1) := by decide +kernel
theorem dd_X0_combine_69 : decode Y_X0_combine.2.1 69 = .ok (.iload_n 2, 1) := by decide +kernel
theorem dd_X0_combine_70 : decode Y_X0_combine.2.1 70 = .ok (.if_icmp .ge 7, 3) := by decide +kernel
theorem dd_X0_combine_73 : decode Y_X0_combine.2.1 73 = .ok (.iconst 1, 1) := by decide +kernel
theorem dd_X0_combine_74 : decode Y_X0_combine.2.1 74 = .ok (.goto 4, 3) := by decide +kernel
theorem dd_X0_combine_77 : decode Y_X0_combine.2.1 77 = .ok (.iconst 0, 1) := by decide +kernel
theorem dd_X0_combine_78 : decode Y_X0_combine.2.1 78 = .ok (.ireturn, 1) := by decide +kernel
theorem dd_X0_combine_79 : decode Y_X0_combine.2.1 79 = .ok (.iload_n 1, 1) := by decide +kernel
theorem dd_X0_combine_80 : decode Y_X0_combine.2.1 80 = .ok (.iload_n 2, 1) := by decide +kernel
theorem dd_X0_combine_81 : decode Y_X0_combine.2.1 81 = .ok (.if_icmp .ne 7, 3) := by decide +kernel
theorem dd_X0_combine_84 : decode Y_X0_combine.2.1 84 = .ok (.iconst 1, 1) := by decide +kernel
theorem dd_X0_combine_85 : decode Y_X0_combine.2.1 85 = .ok (.goto 4, 3) := by decide +kernel
theorem dd_X0_combine_88 : decode Y_X0_combine.2.1 88 = .ok (.iconst 0, 1) := by decide +kernel
theorem dd_X0_combine_89 : decode Y_X0_combine.2.1 89 = .ok (.ireturn, 1) := by decide +kernel
theorem dd_X0_combine_90 : decode Y_X0_combine.2.1 90 = .ok (.iload_n 1, 1) := by decide +kernel
theorem dd_X0_combine_91 : decode Y_X0_combine.2.1 91 = .ok (.ifCond .eq 11, 3) := by decide +kernel
theorem dd_X0_combine_94 : decode Y_X0_combine.2.1 94 = .ok (.iload_n 2, 1) := by decide +kernel
theorem dd_X0_combine_95 : decode Y_X0_combine.2.1 95 = .ok (.ifCond .eq 7, 3) := by decide +kernel
theorem dd_X0_combine_98 : decode Y_X0_combine.2.1 98 = .ok (.iconst 1, 1) := by decide +kernel
theorem dd_X0_combine_99 : decode Y_X0_combine.2.1 99 = .ok (.goto 4, 3) := by decide +kernel
theorem dd_X0_combine_102 : decode Y_X0_combine.2.1 102 = .ok (.iconst 0, 1) := by decide +kernel
theorem dd_X0_combine_103 : decode Y_X0_combine.2.1 103 = .ok (.ireturn, 1) := by decide +kernel
theorem dd_X0_combine_104 : decode Y_X0_combine.2.1 104 = .ok (.iload_n 1, 1) := by decide +kernel
theorem dd_X0_combine_105 : decode Y_X0_combine.2.1 105 = .ok (.ifCond .ne 7, 3) := by decide +kernel
theorem dd_X0_combine_108 : decode Y_X0_combine.2.1 108 = .ok (.iload_n 2, 1) := by decide +kernel
theorem dd_X0_combine_109 : decode Y_X0_combine.2.1 109 = .ok (.ifCond .eq 7, 3) := by decide +kernel
theorem dd_X0_combine_112 : decode Y_X0_combine.2.1 112 = .ok (.iconst 1, 1) := by decide +kernel
theorem dd_X0_combine_113 : decode Y_X0_combine.2.1 113 = .ok (.goto 4, 3) := by decide +kernel
theorem dd_X0_combine_116 : decode Y_X0_combine.2.1 116 = .ok (.iconst 0, 1) := by decide +kernel
theorem dd_X0_combine_117 : decode Y_X0_combine.2.1 117 = .ok (.ireturn, 1) := by decide +kernel
def F_X0_combine (a0 : Int32) (a1 : Int32) (a2 : Int32) (M : zM) : zO := zit (a0 = (-17)) (zjo (fun (w1 : Int32) (M2 : zM) => zI w1 M2) (fun (k1 : Int32 → zM → zO) => zjo (fun  (M1 : zM) => k1 0 M1) (fun (k2 : zM → zO) => zit (a1 = 0) (k2 M) (zit (a2 = 0) (k2 M) (k1 1 M))))) (zit (a0 = (-16)) (zjo (fun (w2 : Int32) (M3 : zM) => zI w2 M3) (fun (k3 : Int32 → zM → zO) => zit (a1 = a2) (k3 1 M) (k3 0 M))) (zit (a0 = (-15)) (zjo (fun (w3 : Int32) (M4 : zM) => zI w3 M4) (fun (k4 : Int32 → zM → zO) => zit (a2 ≤ a1) (k4 0 M) (k4 1 M))) (zit (a0 = (-14)) (zjo (fun (w4 : Int32) (M5 : zM) => zI w4 M5) (fun (k5 : Int32 → zM → zO) => zit (a2 = 0) (k5 0 M) (zck (!decide (a2 = 0)) (k5 (a1 / a2) M)))) (zit (a0 = (-13)) (zI (a1 * a2) M) (zit (a0 = (-12)) (zI (a1 - a2) M) (zit (a0 = (-11)) (zI (a1 + a2) M) (zjo (fun (w5 : Int32) (M7 : zM) => zI w5 M7) (fun (k6 : Int32 → zM → zO) => zjo (fun  (M6 : zM) => k6 1 M6) (fun (k7 : zM → zO) => zit (a1 = 0) (zit (a2 = 0) (k6 0 M) (k7 M)) (k7 M))))))))))
set_option maxHeartbeats 1000000 in
set_option maxRecDepth 20000 in
theorem ct_X0_combine (l : Launch) (hl : l.stackTraces = false) (G : zG) (a0 : Int32) (a1 : Int32) (a2 : Int32) (M : zM) : zMt l G Y_X0_combine 1 [.int a0, .int a1, .int a2] M (F_X0_combine a0 a1 a2 M) := by
  refine zMt_of (by decide +kernel) (Nat.le_of_ble_eq_true rfl) ?_
  show zEv l G Y_X0_combine 1 0 0 [(0, .int a0), (1, .int a1), (2, .int a2)] [] M (zit (a0 = (-17)) (zjo (fun (w1 : Int32) (M2 : zM) => zI w1 M2) (fun (k1 : Int32 → zM → zO) => zjo (fun  (M1 : zM) => k1 0 M1) (fun (k2 : zM → zO) => zit (a1 = 0) (k2 M) (zit (a2 = 0) (k2 M) (k1 1 M))))) (zit (a0 = (-16)) (zjo (fun (w2 : Int32) (M3 : zM) => zI w2 M3) (fun (k3 : Int32 → zM → zO) => zit (a1 = a2) (k3 1 M) (k3 0 M))) (zit (a0 = (-15)) (zjo (fun (w3 : Int32) (M4 : zM) => zI w3 M4) (fun (k4 : Int32 → zM → zO) => zit (a2 ≤ a1) (k4 0 M) (k4 1 M))) (zit (a0 = (-14)) (zjo (fun (w4 : Int32) (M5 : zM) => zI w4 M5) (fun (k5 : Int32 → zM → zO) => zit (a2 = 0) (k5 0 M) (zck (!decide (a2 = 0)) (k5 (a1 / a2) M)))) (zit (a0 = (-13)) (zI (a1 * a2) M) (zit (a0 = (-12)) (zI (a1 - a2) M) (zit (a0 = (-11)) (zI (a1 + a2) M) (zjo (fun (w5 : Int32) (M7 : zM) => zI w5 M7) (fun (k6 : Int32 → zM → zO) => zjo (fun  (M6 : zM) => k6 1 M6) (fun (k7 : zM → zO) => zit (a1 = 0) (zit (a2 = 0) (k6 0 M) (k7 M)) (k7 M)))))))))))
  refine ev_iload_n dd_X0_combine_0 0 rfl ?_
  refine ev_lv (lv' := [(1, .int a1), (2, .int a2)]) [1, 2] rfl ?_
  refine ev_it (fun hs1 => ?_) (fun hs1 => ?_)
  · refine ev_tabIn (off := 89) (tgt := 90) dd_X0_combine_1 (-17) hs1 (by decide +kernel) ?_
    refine ev_iload_n dd_X0_combine_90 0 rfl ?_
    refine ev_lv (lv' := [(2, .int a2)]) [1] rfl ?_
    refine ev_jo (fun (k1 : Int32 → zM → zO) => ∀ (w1 : Int32) (M2 : zM), zEv l G Y_X0_combine 1 0 103 [] [.int w1] M2 (k1 w1 M2)) ?_ (fun k1 hk1 => ?_)
    · intro w1 M2
      exact ev_iret dd_X0_combine_103 rfl (Nat.le_of_ble_eq_true rfl) rfl
    · refine ev_jo (fun (k2 : zM → zO) => ∀  (M1 : zM), zEv l G Y_X0_combine 1 0 102 [] [] M1 (k2 M1)) ?_ (fun k2 hk2 => ?_)
      · intro M1
        refine ev_iconst (v := 0) dd_X0_combine_102 (by decide) ?_
        exact hk1 _ _
      · refine ev_if_eq 102 dd_X0_combine_91 (by decide) ?_ ?_
        · refine ev_lv (lv' := []) [] rfl ?_
          exact hk2 _
        · refine ev_iload_n dd_X0_combine_94 0 rfl ?_
          refine ev_lv (lv' := []) [] rfl ?_
          refine ev_if_eq 102 dd_X0_combine_95 (by decide) ?_ ?_
          · exact hk2 _
          · refine ev_iconst (v := 1) dd_X0_combine_98 (by decide) ?_
            refine ev_goto 103 dd_X0_combine_99 (by decide) ?_
            exact hk1 _ _
  refine ev_it (fun hs2 => ?_) (fun hs2 => ?_)
  · refine ev_tabIn (off := 78) (tgt := 79) dd_X0_combine_1 (-16) hs2 (by decide +kernel) ?_
    refine ev_iload_n dd_X0_combine_79 0 rfl ?_
    refine ev_lv (lv' := [(2, .int a2)]) [1] rfl ?_
    refine ev_iload_n dd_X0_combine_80 0 rfl ?_
    refine ev_lv (lv' := []) [] rfl ?_
    refine ev_jo (fun (k3 : Int32 → zM → zO) => ∀ (w2 : Int32) (M3 : zM), zEv l G Y_X0_combine 1 0 89 [] [.int w2] M3 (k3 w2 M3)) ?_ (fun k3 hk3 => ?_)
    · intro w2 M3
      exact ev_iret dd_X0_combine_89 rfl (Nat.le_of_ble_eq_true rfl) rfl
    · refine ev_icmp_ne 88 dd_X0_combine_81 (by decide) ?_ ?_
      · refine ev_iconst (v := 0) dd_X0_combine_88 (by decide) ?_
        exact hk3 _ _
      · refine ev_iconst (v := 1) dd_X0_combine_84 (by decide) ?_
        refine ev_goto 89 dd_X0_combine_85 (by decide) ?_
        exact hk3 _ _
  refine ev_it (fun hs3 => ?_) (fun hs3 => ?_)
  · refine ev_tabIn (off := 67) (tgt := 68) dd_X0_combine_1 (-15) hs3 (by decide +kernel) ?_
    refine ev_iload_n dd_X0_combine_68 0 rfl ?_
    refine ev_lv (lv' := [(2, .int a2)]) [1] rfl ?_
    refine ev_iload_n dd_X0_combine_69 0 rfl ?_
    refine ev_lv (lv' := []) [] rfl ?_
    refine ev_jo (fun (k4 : Int32 → zM → zO) => ∀ (w3 : Int32) (M4 : zM), zEv l G Y_X0_combine 1 0 78 [] [.int w3] M4 (k4 w3 M4)) ?_ (fun k4 hk4 => ?_)
    · intro w3 M4
      exact ev_iret dd_X0_combine_78 rfl (Nat.le_of_ble_eq_true rfl) rfl
    · refine ev_icmp_ge 77 dd_X0_combine_70 (by decide) ?_ ?_
      · refine ev_iconst (v := 0) dd_X0_combine_77 (by decide) ?_
        exact hk4 _ _
      · refine ev_iconst (v := 1) dd_X0_combine_73 (by decide) ?_
        refine ev_goto 78 dd_X0_combine_74 (by decide) ?_
        exact hk4 _ _
  refine ev_it (fun hs4 => ?_) (fun hs4 => ?_)
  · refine ev_tabIn (off := 55) (tgt := 56) dd_X0_combine_1 (-14) hs4 (by decide +kernel) ?_
    refine ev_iload_n dd_X0_combine_56 1 rfl ?_
    refine ev_jo (fun (k5 : Int32 → zM → zO) => ∀ (w4 : Int32) (M5 : zM), zEv l G Y_X0_combine 1 0 67 [] [.int w4] M5 (k5 w4 M5)) ?_ (fun k5 hk5 => ?_)
    · intro w4 M5
      exact ev_iret dd_X0_combine_67 rfl (Nat.le_of_ble_eq_true rfl) rfl
    · refine ev_if_ne 64 dd_X0_combine_57 (by decide) ?_ ?_
      · refine ev_iload_n dd_X0_combine_64 0 rfl ?_
        refine ev_lv (lv' := [(2, .int a2)]) [1] rfl ?_
        refine ev_iload_n dd_X0_combine_65 0 rfl ?_
        refine ev_lv (lv' := []) [] rfl ?_
        refine ev_idiv dd_X0_combine_66 ?_
        exact hk5 _ _
      · refine ev_lv (lv' := []) [] rfl ?_
        refine ev_iconst (v := 0) dd_X0_combine_60 (by decide) ?_
        refine ev_goto 67 dd_X0_combine_61 (by decide) ?_
        exact hk5 _ _
  refine ev_it (fun hs5 => ?_) (fun hs5 => ?_)
  · refine ev_tabIn (off := 51) (tgt := 52) dd_X0_combine_1 (-13) hs5 (by decide +kernel) ?_
    refine ev_iload_n dd_X0_combine_52 0 rfl ?_
    refine ev_lv (lv' := [(2, .int a2)]) [1] rfl ?_
    refine ev_iload_n dd_X0_combine_53 0 rfl ?_
    refine ev_lv (lv' := []) [] rfl ?_
    refine ev_imul dd_X0_combine_54 ?_
    exact ev_iret dd_X0_combine_55 rfl (Nat.le_of_ble_eq_true rfl) rfl
  refine ev_it (fun hs6 => ?_) (fun hs6 => ?_)
  · refine ev_tabIn (off := 47) (tgt := 48) dd_X0_combine_1 (-12) hs6 (by decide +kernel) ?_
    refine ev_iload_n dd_X0_combine_48 0 rfl ?_
    refine ev_lv (lv' := [(2, .int a2)]) [1] rfl ?_
    refine ev_iload_n dd_X0_combine_49 0 rfl ?_
    refine ev_lv (lv' := []) [] rfl ?_
    refine ev_isub dd_X0_combine_50 ?_
    exact ev_iret dd_X0_combine_51 rfl (Nat.le_of_ble_eq_true rfl) rfl
  refine ev_it (fun hs7 => ?_) (fun hs7 => ?_)
  · refine ev_tabIn (off := 43) (tgt := 44) dd_X0_combine_1 (-11) hs7 (by decide +kernel) ?_
    refine ev_iload_n dd_X0_combine_44 0 rfl ?_
    refine ev_lv (lv' := [(2, .int a2)]) [1] rfl ?_
    refine ev_iload_n dd_X0_combine_45 0 rfl ?_
    refine ev_lv (lv' := []) [] rfl ?_
    refine ev_iadd dd_X0_combine_46 ?_
    exact ev_iret dd_X0_combine_47 rfl (Nat.le_of_ble_eq_true rfl) rfl
  refine ev_tabOut (tgt := 104) dd_X0_combine_1 (by have e0 := i32ne hs1 (n := -17) (by decide); have e1 := i32ne hs2 (n := -16) (by decide); have e2 := i32ne hs3 (n := -15) (by decide); have e3 := i32ne hs4 (n := -14) (by decide); have e4 := i32ne hs5 (n := -13) (by decide); have e5 := i32ne hs6 (n := -12) (by decide); have e6 := i32ne hs7 (n := -11) (by decide); omega) (by decide) ?_
  refine ev_iload_n dd_X0_combine_104 0 rfl ?_
  refine ev_lv (lv' := [(2, .int a2)]) [1] rfl ?_
  refine ev_jo (fun (k6 : Int32 → zM → zO) => ∀ (w5 : Int32) (M7 : zM), zEv l G Y_X0_combine 1 0 117 [] [.int w5] M7 (k6 w5 M7)) ?_ (fun k6 hk6 => ?_)
  · intro w5 M7
    exact ev_iret dd_X0_combine_117 rfl (Nat.le_of_ble_eq_true rfl) rfl
  · refine ev_jo (fun (k7 : zM → zO) => ∀  (M6 : zM), zEv l G Y_X0_combine 1 0 112 [] [] M6 (k7 M6)) ?_ (fun k7 hk7 => ?_)
    · intro M6
      refine ev_iconst (v := 1) dd_X0_combine_112 (by decide) ?_
      refine ev_goto 117 dd_X0_combine_113 (by decide) ?_
      exact hk6 _ _
    · refine ev_if_ne 112 dd_X0_combine_105 (by decide) ?_ ?_
      · refine ev_lv (lv' := []) [] rfl ?_
        exact hk7 _
      · refine ev_iload_n dd_X0_combine_108 0 rfl ?_
        refine ev_lv (lv' := []) [] rfl ?_
        refine ev_if_eq 116 dd_X0_combine_109 (by decide) ?_ ?_
        · refine ev_iconst (v := 0) dd_X0_combine_116 (by decide) ?_
          exact hk6 _ _
        · exact hk7 _
/-! X0_copy -/
theorem dd_X0_copy_0 : decode Y_X0_copy.2.1 0 = .ok (.aload_n 1, 1) := by decide +kernel
theorem dd_X0_copy_1 : decode Y_X0_copy.2.1 1 = .ok (.getfield 15, 3) := by decide +kernel
theorem dd_X0_copy_4 : decode Y_X0_copy.2.1 4 = .ok (.iconst 0, 1) := by decide +kernel
theorem dd_X0_copy_5 : decode Y_X0_copy.2.1 5 = .ok (.aload_n 0, 1) := by decide +kernel
theorem dd_X0_copy_6 : decode Y_X0_copy.2.1 6 = .ok (.getfield 15, 3) := by decide +kernel
theorem dd_X0_copy_9 : decode Y_X0_copy.2.1 9 = .ok (.iconst 0, 1) := by decide +kernel
theorem dd_X0_copy_10 : decode Y_X0_copy.2.1 10 = .ok (.aload_n 1, 1) := by decide +kernel
theorem dd_X0_copy_11 : decode Y_X0_copy.2.1 11 = .ok (.getfield 21, 3) := by decide +kernel
theorem dd_X0_copy_14 : decode Y_X0_copy.2.1 14 = .ok (.invokestatic 29, 3) := by decide +kernel
theorem dd_X0_copy_17 : decode Y_X0_copy.2.1 17 = .ok (.aload_n 0, 1) := by decide +kernel
theorem dd_X0_copy_18 : decode Y_X0_copy.2.1 18 = .ok (.aload_n 1, 1) := by decide +kernel
theorem dd_X0_copy_19 : decode Y_X0_copy.2.1 19 = .ok (.getfield 21, 3) := by decide +kernel
theorem dd_X0_copy_22 : decode Y_X0_copy.2.1 22 = .ok (.putfield 21, 3) := by decide +kernel
theorem dd_X0_copy_25 : decode Y_X0_copy.2.1 25 = .ok (.aload_n 0, 1) := by decide +kernel
theorem dd_X0_copy_26 : decode Y_X0_copy.2.1 26 = .ok (.aload_n 1, 1) := by decide +kernel
theorem dd_X0_copy_27 : decode Y_X0_copy.2.1 27 = .ok (.getfield 25, 3) := by decide +kernel
theorem dd_X0_copy_30 : decode Y_X0_copy.2.1 30 = .ok (.putfield 25, 3) := by decide +kernel
theorem dd_X0_copy_33 : decode Y_X0_copy.2.1 33 = .ok (.return_, 1) := by decide +kernel
def F_X0_copy (t : Nat) (a1 : Nat) (M : zM) : zO := zck (zcpk 0 0 (M a1 3) 700 700) (zst (zupA M (zgr t 1) (va_cpy (M (zgr a1 1)) (M (zgr t 1)) (zix 0) (zix 0) (zix (M a1 3)))) (fun M1 => zst (zup M1 t 3 (M1 a1 3)) (fun M2 => zck (zbo (M2 a1 4)) (zst (zup M2 t 4 (M2 a1 4)) (fun M3 => zV M3)))))
set_option maxHeartbeats 1000000 in
set_option maxRecDepth 20000 in
theorem ct_X0_copy (l : Launch) (hl : l.stackTraces = false) (G : zG) (t : Nat) (ht : zsh t = 0) (a1 : Nat) (ha1 : zsh a1 = 0) (M : zM) : zMt l G Y_X0_copy 8 [.ref (G.2.1 + t), .ref (G.2.1 + a1)] M (F_X0_copy t a1 M) := by
  refine zMt_of (by decide +kernel) (Nat.le_of_ble_eq_true rfl) ?_
  show zEv l G Y_X0_copy 8 0 0 [(0, .ref (G.2.1 + t)), (1, .ref (G.2.1 + a1))] [] M (zck (zcpk 0 0 (M a1 3) 700 700) (zst (zupA M (zgr t 1) (va_cpy (M (zgr a1 1)) (M (zgr t 1)) (zix 0) (zix 0) (zix (M a1 3)))) (fun M1 => zst (zup M1 t 3 (M1 a1 3)) (fun M2 => zck (zbo (M2 a1 4)) (zst (zup M2 t 4 (M2 a1 4)) (fun M3 => zV M3))))))
  refine ev_aload_n dd_X0_copy_0 1 rfl ?_
  refine ev_getR gf_RX0_15 dd_X0_copy_1 ha1 (by decide) ?_
  refine ev_iconst (v := 0) dd_X0_copy_4 (by decide) ?_
  refine ev_aload_n dd_X0_copy_5 0 rfl ?_
  refine ev_getR gf_RX0_15 dd_X0_copy_6 ht (by decide) ?_
  refine ev_iconst (v := 0) dd_X0_copy_9 (by decide) ?_
  refine ev_aload_n dd_X0_copy_10 1 rfl ?_
  refine ev_getI gf_RX0_21 dd_X0_copy_11 ha1 (by decide) ?_
  refine ev_copyi cw_RX0_29 dd_X0_copy_14 ((zg_0_1 ha1).1) ((zg_0_1 ha1).2) ((zg_0_1 ht).1) ((zg_0_1 ht).2) (Nat.le_of_ble_eq_true rfl) ?_
  refine ev_st (fun M1 => ?_)
  refine ev_aload_n dd_X0_copy_17 0 rfl ?_
  refine ev_aload_n dd_X0_copy_18 1 rfl ?_
  refine ev_getI gf_RX0_21 dd_X0_copy_19 ha1 (by decide) ?_
  refine ev_putI gw_RX0_21 dd_X0_copy_22 ht (by decide) ?_
  refine ev_st (fun M2 => ?_)
  refine ev_aload_n dd_X0_copy_25 0 rfl ?_
  refine ev_lv (lv' := [(1, .ref (G.2.1 + a1))]) [1] rfl ?_
  refine ev_aload_n dd_X0_copy_26 0 rfl ?_
  refine ev_lv (lv' := []) [] rfl ?_
  refine ev_getI gf_RX0_25 dd_X0_copy_27 ha1 (by decide) ?_
  refine ev_putZ gw_RX0_25 dd_X0_copy_30 ht (by decide) ?_
  refine ev_st (fun M3 => ?_)
  exact ev_vret dd_X0_copy_33 rfl (Nat.le_of_ble_eq_true rfl) rfl
/-! X0_holds -/
theorem dd_X0_holds_0 : decode Y_X0_holds.2.1 0 = .ok (.iconst 0, 1) := by decide +kernel
theorem dd_X0_holds_1 : decode Y_X0_holds.2.1 1 = .ok (.istore_n 1, 1) := by decide +kernel
theorem dd_X0_holds_2 : decode Y_X0_holds.2.1 2 = .ok (.iconst 0, 1) := by decide +kernel
theorem dd_X0_holds_3 : decode Y_X0_holds.2.1 3 = .ok (.istore_n 2, 1) := by decide +kernel
theorem dd_X0_holds_4 : decode Y_X0_holds.2.1 4 = .ok (.iload_n 2, 1) := by decide +kernel
theorem dd_X0_holds_5 : decode Y_X0_holds.2.1 5 = .ok (.aload_n 0, 1) := by decide +kernel
theorem dd_X0_holds_6 : decode Y_X0_holds.2.1 6 = .ok (.getfield 21, 3) := by decide +kernel
theorem dd_X0_holds_9 : decode Y_X0_holds.2.1 9 = .ok (.if_icmp .ge 128, 3) := by decide +kernel
theorem dd_X0_holds_12 : decode Y_X0_holds.2.1 12 = .ok (.aload_n 0, 1) := by decide +kernel
theorem dd_X0_holds_13 : decode Y_X0_holds.2.1 13 = .ok (.getfield 15, 3) := by decide +kernel
theorem dd_X0_holds_16 : decode Y_X0_holds.2.1 16 = .ok (.iload_n 2, 1) := by decide +kernel
theorem dd_X0_holds_17 : decode Y_X0_holds.2.1 17 = .ok (.iaload, 1) := by decide +kernel
theorem dd_X0_holds_18 : decode Y_X0_holds.2.1 18 = .ok (.istore_n 3, 1) := by decide +kernel
theorem dd_X0_holds_19 : decode Y_X0_holds.2.1 19 = .ok (.iload_n 3, 1) := by decide +kernel
theorem dd_X0_holds_20 : decode Y_X0_holds.2.1 20 = .ok (.bipush (-7), 2) := by decide +kernel
theorem dd_X0_holds_22 : decode Y_X0_holds.2.1 22 = .ok (.if_icmp .lt 37, 3) := by decide +kernel
theorem dd_X0_holds_25 : decode Y_X0_holds.2.1 25 = .ok (.iload_n 1, 1) := by decide +kernel
theorem dd_X0_holds_26 : decode Y_X0_holds.2.1 26 = .ok (.bipush 40, 2) := by decide +kernel
theorem dd_X0_holds_28 : decode Y_X0_holds.2.1 28 = .ok (.if_icmp .ge 103, 3) := by decide +kernel
theorem dd_X0_holds_31 : decode Y_X0_holds.2.1 31 = .ok (.aload_n 0, 1) := by decide +kernel
theorem dd_X0_holds_32 : decode Y_X0_holds.2.1 32 = .ok (.getfield 18, 3) := by decide +kernel
theorem dd_X0_holds_35 : decode Y_X0_holds.2.1 35 = .ok (.iload_n 1, 1) := by decide +kernel
theorem dd_X0_holds_36 : decode Y_X0_holds.2.1 36 = .ok (.iload_n 3, 1) := by decide +kernel
theorem dd_X0_holds_37 : decode Y_X0_holds.2.1 37 = .ok (.ifCond .lt 7, 3) := by decide +kernel
theorem dd_X0_holds_40 : decode Y_X0_holds.2.1 40 = .ok (.iload_n 3, 1) := by decide +kernel
theorem dd_X0_holds_41 : decode Y_X0_holds.2.1 41 = .ok (.goto 11, 3) := by decide +kernel
theorem dd_X0_holds_44 : decode Y_X0_holds.2.1 44 = .ok (.aload_n 0, 1) := by decide +kernel
theorem dd_X0_holds_45 : decode Y_X0_holds.2.1 45 = .ok (.getfield 11, 3) := by decide +kernel
theorem dd_X0_holds_48 : decode Y_X0_holds.2.1 48 = .ok (.iconst (-1), 1) := by decide +kernel
theorem dd_X0_holds_49 : decode Y_X0_holds.2.1 49 = .ok (.iload_n 3, 1) := by decide +kernel
theorem dd_X0_holds_50 : decode Y_X0_holds.2.1 50 = .ok (.isub, 1) := by decide +kernel
theorem dd_X0_holds_51 : decode Y_X0_holds.2.1 51 = .ok (.iaload, 1) := by decide +kernel
theorem dd_X0_holds_52 : decode Y_X0_holds.2.1 52 = .ok (.iastore, 1) := by decide +kernel
theorem dd_X0_holds_53 : decode Y_X0_holds.2.1 53 = .ok (.iinc 1 1, 3) := by decide +kernel
theorem dd_X0_holds_56 : decode Y_X0_holds.2.1 56 = .ok (.goto 75, 3) := by decide +kernel
theorem dd_X0_holds_59 : decode Y_X0_holds.2.1 59 = .ok (.iload_n 3, 1) := by decide +kernel
theorem dd_X0_holds_60 : decode Y_X0_holds.2.1 60 = .ok (.bipush (-10), 2) := by decide +kernel
theorem dd_X0_holds_62 : decode Y_X0_holds.2.1 62 = .ok (.if_icmp .ne 35, 3) := by decide +kernel
theorem dd_X0_holds_65 : decode Y_X0_holds.2.1 65 = .ok (.iload_n 1, 1) := by decide +kernel
theorem dd_X0_holds_66 : decode Y_X0_holds.2.1 66 = .ok (.iconst 1, 1) := by decide +kernel
theorem dd_X0_holds_67 : decode Y_X0_holds.2.1 67 = .ok (.if_icmp .lt 64, 3) := by decide +kernel
theorem dd_X0_holds_70 : decode Y_X0_holds.2.1 70 = .ok (.aload_n 0, 1) := by decide +kernel
theorem dd_X0_holds_71 : decode Y_X0_holds.2.1 71 = .ok (.getfield 18, 3) := by decide +kernel
theorem dd_X0_holds_74 : decode Y_X0_holds.2.1 74 = .ok (.iload_n 1, 1) := by decide +kernel
theorem dd_X0_holds_75 : decode Y_X0_holds.2.1 75 = .ok (.iconst 1, 1) := by decide +kernel
theorem dd_X0_holds_76 : decode Y_X0_holds.2.1 76 = .ok (.isub, 1) := by decide +kernel
theorem dd_X0_holds_77 : decode Y_X0_holds.2.1 77 = .ok (.aload_n 0, 1) := by decide +kernel
theorem dd_X0_holds_78 : decode Y_X0_holds.2.1 78 = .ok (.getfield 18, 3) := by decide +kernel
theorem dd_X0_holds_81 : decode Y_X0_holds.2.1 81 = .ok (.iload_n 1, 1) := by decide +kernel
theorem dd_X0_holds_82 : decode Y_X0_holds.2.1 82 = .ok (.iconst 1, 1) := by decide +kernel
theorem dd_X0_holds_83 : decode Y_X0_holds.2.1 83 = .ok (.isub, 1) := by decide +kernel
theorem dd_X0_holds_84 : decode Y_X0_holds.2.1 84 = .ok (.iaload, 1) := by decide +kernel
theorem dd_X0_holds_85 : decode Y_X0_holds.2.1 85 = .ok (.ifCond .ne 7, 3) := by decide +kernel
theorem dd_X0_holds_88 : decode Y_X0_holds.2.1 88 = .ok (.iconst 1, 1) := by decide +kernel
theorem dd_X0_holds_89 : decode Y_X0_holds.2.1 89 = .ok (.goto 4, 3) := by decide +kernel
theorem dd_X0_holds_92 : decode Y_X0_holds.2.1 92 = .ok (.iconst 0, 1) := by decide +kernel
theorem dd_X0_holds_93 : decode Y_X0_holds.2.1 93 = .ok (.iastore, 1) := by decide +kernel
theorem dd_X0_holds_94 : decode Y_X0_holds.2.1 94 = .ok (.goto 37, 3) := by decide +kernel
theorem dd_X0_holds_97 : decode Y_X0_holds.2.1 97 = .ok (.iload_n 1, 1) := by decide +kernel
theorem dd_X0_holds_98 : decode Y_X0_holds.2.1 98 = .ok (.iconst 2, 1) := by decide +kernel
theorem dd_X0_holds_99 : decode Y_X0_holds.2.1 99 = .ok (.if_icmp .lt 32, 3) := by decide +kernel
theorem dd_X0_holds_102 : decode Y_X0_holds.2.1 102 = .ok (.iinc 1 (-1), 3) := by decide +kernel
theorem dd_X0_holds_105 : decode Y_X0_holds.2.1 105 = .ok (.aload_n 0, 1) := by decide +kernel
theorem dd_X0_holds_106 : decode Y_X0_holds.2.1 106 = .ok (.getfield 18, 3) := by decide +kernel
theorem dd_X0_holds_109 : decode Y_X0_holds.2.1 109 = .ok (.iload_n 1, 1) := by decide +kernel
theorem dd_X0_holds_110 : decode Y_X0_holds.2.1 110 = .ok (.iconst 1, 1) := by decide +kernel
theorem dd_X0_holds_111 : decode Y_X0_holds.2.1 111 = .ok (.isub, 1) := by decide +kernel
theorem dd_X0_holds_112 : decode Y_X0_holds.2.1 112 = .ok (.iload_n 3, 1) := by decide +kernel
theorem dd_X0_holds_113 : decode Y_X0_holds.2.1 113 = .ok (.aload_n 0, 1) := by decide +kernel
theorem dd_X0_holds_114 : decode Y_X0_holds.2.1 114 = .ok (.getfield 18, 3) := by decide +kernel
theorem dd_X0_holds_117 : decode Y_X0_holds.2.1 117 = .ok (.iload_n 1, 1) := by decide +kernel
theorem dd_X0_holds_118 : decode Y_X0_holds.2.1 118 = .ok (.iconst 1, 1) := by decide +kernel
theorem dd_X0_holds_119 : decode Y_X0_holds.2.1 119 = .ok (.isub, 1) := by decide +kernel
theorem dd_X0_holds_120 : decode Y_X0_holds.2.1 120 = .ok (.iaload, 1) := by decide +kernel
theorem dd_X0_holds_121 : decode Y_X0_holds.2.1 121 = .ok (.aload_n 0, 1) := by decide +kernel
theorem dd_X0_holds_122 : decode Y_X0_holds.2.1 122 = .ok (.getfield 18, 3) := by decide +kernel
theorem dd_X0_holds_125 : decode Y_X0_holds.2.1 125 = .ok (.iload_n 1, 1) := by decide +kernel
theorem dd_X0_holds_126 : decode Y_X0_holds.2.1 126 = .ok (.iaload, 1) := by decide +kernel
theorem dd_X0_holds_127 : decode Y_X0_holds.2.1 127 = .ok (.invokestatic 107, 3) := by decide +kernel
theorem dd_X0_holds_130 : decode Y_X0_holds.2.1 130 = .ok (.iastore, 1) := by decide +kernel
theorem dd_X0_holds_131 : decode Y_X0_holds.2.1 131 = .ok (.iinc 2 1, 3) := by decide +kernel
theorem dd_X0_holds_134 : decode Y_X0_holds.2.1 134 = .ok (.goto (-130), 3) := by decide +kernel
theorem dd_X0_holds_137 : decode Y_X0_holds.2.1 137 = .ok (.iload_n 1, 1) := by decide +kernel
theorem dd_X0_holds_138 : decode Y_X0_holds.2.1 138 = .ok (.iconst 1, 1) := by decide +kernel
theorem dd_X0_holds_139 : decode Y_X0_holds.2.1 139 = .ok (.if_icmp .lt 18, 3) := by decide +kernel
theorem dd_X0_holds_142 : decode Y_X0_holds.2.1 142 = .ok (.aload_n 0, 1) := by decide +kernel
theorem dd_X0_holds_143 : decode Y_X0_holds.2.1 143 = .ok (.getfield 18, 3) := by decide +kernel
theorem dd_X0_holds_146 : decode Y_X0_holds.2.1 146 = .ok (.iload_n 1, 1) := by decide +kernel
theorem dd_X0_holds_147 : decode Y_X0_holds.2.1 147 = .ok (.iconst 1, 1) := by decide +kernel
theorem dd_X0_holds_148 : decode Y_X0_holds.2.1 148 = .ok (.isub, 1) := by decide +kernel
theorem dd_X0_holds_149 : decode Y_X0_holds.2.1 149 = .ok (.iaload, 1) := by decide +kernel
theorem dd_X0_holds_150 : decode Y_X0_holds.2.1 150 = .ok (.ifCond .eq 7, 3) := by decide +kernel
theorem dd_X0_holds_153 : decode Y_X0_holds.2.1 153 = .ok (.iconst 1, 1) := by decide +kernel
theorem dd_X0_holds_154 : decode Y_X0_holds.2.1 154 = .ok (.goto 4, 3) := by decide +kernel
theorem dd_X0_holds_157 : decode Y_X0_holds.2.1 157 = .ok (.iconst 0, 1) := by decide +kernel
theorem dd_X0_holds_158 : decode Y_X0_holds.2.1 158 = .ok (.ireturn, 1) := by decide +kernel
def F_X0_holds_L4 (x0 : Nat) (K137 : Int32 → zM → zO) : Nat → Int32 → Int32 → zM → zO
  | 0, _, _, _ => none
  | n + 1, x1, x2, M => zit ((M x0 3) ≤ x2) (K137 x1 M) (zck (zin x2 700) (zlt (M (zgr x0 1) (zix x2)) (fun v1 => zjo (fun (w3 : Int32) (M7 : zM) => F_X0_holds_L4 x0 K137 n w3 (x2 + 1) M7) (fun (k1 : Int32 → zM → zO) => zit (v1 < (-7)) (zit (v1 = (-10)) (zit (x1 < 1) (k1 x1 M) (zck (zin (x1 - 1) 40) (zjo (fun (w1 : Int32) (M3 : zM) => zck (zin (x1 - 1) 40) (zst (zup M3 (zgr x0 2) (zix (x1 - 1)) w1) (fun M4 => k1 x1 M4))) (fun (k2 : Int32 → zM → zO) => zit ((M (zgr x0 2) (zix (x1 - 1))) = 0) (k2 1 M) (k2 0 M))))) (zit (x1 < 2) (k1 x1 M) (zck (zin ((x1 + (-1)) - 1) 40) (zck (zin (x1 + (-1)) 40) (zbI (F_X0_combine v1 (M (zgr x0 2) (zix ((x1 + (-1)) - 1))) (M (zgr x0 2) (zix (x1 + (-1)))) M) (fun r1 M1 => zck (zin ((x1 + (-1)) - 1) 40) (zst (zup M1 (zgr x0 2) (zix ((x1 + (-1)) - 1)) r1) (fun M2 => k1 (x1 + (-1)) M2)))))))) (zit (40 ≤ x1) (k1 x1 M) (zjo (fun (w2 : Int32) (M5 : zM) => zck (zin x1 40) (zst (zup M5 (zgr x0 2) (zix x1) w2) (fun M6 => k1 (x1 + 1) M6))) (fun (k3 : Int32 → zM → zO) => zit (v1 < 0) (zck (zin ((-1) - v1) 7) (k3 (M (zgr x0 0) (zix ((-1) - v1))) M)) (k3 v1 M))))))))
def F_X0_holds (t : Nat) (M : zM) : zO := F_X0_holds_L4 t (fun (y1 : Int32) (M8 : zM) => zjo (fun (w4 : Int32) (M10 : zM) => zck (zbo w4) (zI w4 M10)) (fun (k4 : Int32 → zM → zO) => zjo (fun  (M9 : zM) => k4 0 M9) (fun (k5 : zM → zO) => zit (y1 < 1) (k5 M8) (zck (zin (y1 - 1) 40) (zit ((M8 (zgr t 2) (zix (y1 - 1))) = 0) (k5 M8) (k4 1 M8)))))) zN 0 0 M
set_option maxHeartbeats 1000000 in
set_option maxRecDepth 20000 in
theorem ct_X0_holds_L4 (l : Launch) (hl : l.stackTraces = false) (G : zG) (x0 : Nat) (hx0 : zsh x0 = 0) (K137 : Int32 → zM → zO) (hK137 : ∀ (x1 : Int32) (M : zM), zEv l G Y_X0_holds 2 0 137 [(0, .ref (G.2.1 + x0)), (1, .int x1)] [] M (K137 x1 M)) : ∀ (n : Nat) (x1 : Int32) (x2 : Int32) (M : zM), zEv l G Y_X0_holds 2 0 4 [(0, .ref (G.2.1 + x0)), (1, .int x1), (2, .int x2)] [] M (F_X0_holds_L4 x0 K137 n x1 x2 M) := by
  intro n
  induction n with
  | zero => intro x1 x2 M; exact ev_none
  | succ n ih =>
    intro x1 x2 M
    show zEv l G Y_X0_holds 2 0 4 [(0, .ref (G.2.1 + x0)), (1, .int x1), (2, .int x2)] [] M (zit ((M x0 3) ≤ x2) (K137 x1 M) (zck (zin x2 700) (zlt (M (zgr x0 1) (zix x2)) (fun v1 => zjo (fun (w3 : Int32) (M7 : zM) => F_X0_holds_L4 x0 K137 n w3 (x2 + 1) M7) (fun (k1 : Int32 → zM → zO) => zit (v1 < (-7)) (zit (v1 = (-10)) (zit (x1 < 1) (k1 x1 M) (zck (zin (x1 - 1) 40) (zjo (fun (w1 : Int32) (M3 : zM) => zck (zin (x1 - 1) 40) (zst (zup M3 (zgr x0 2) (zix (x1 - 1)) w1) (fun M4 => k1 x1 M4))) (fun (k2 : Int32 → zM → zO) => zit ((M (zgr x0 2) (zix (x1 - 1))) = 0) (k2 1 M) (k2 0 M))))) (zit (x1 < 2) (k1 x1 M) (zck (zin ((x1 + (-1)) - 1) 40) (zck (zin (x1 + (-1)) 40) (zbI (F_X0_combine v1 (M (zgr x0 2) (zix ((x1 + (-1)) - 1))) (M (zgr x0 2) (zix (x1 + (-1)))) M) (fun r1 M1 => zck (zin ((x1 + (-1)) - 1) 40) (zst (zup M1 (zgr x0 2) (zix ((x1 + (-1)) - 1)) r1) (fun M2 => k1 (x1 + (-1)) M2)))))))) (zit (40 ≤ x1) (k1 x1 M) (zjo (fun (w2 : Int32) (M5 : zM) => zck (zin x1 40) (zst (zup M5 (zgr x0 2) (zix x1) w2) (fun M6 => k1 (x1 + 1) M6))) (fun (k3 : Int32 → zM → zO) => zit (v1 < 0) (zck (zin ((-1) - v1) 7) (k3 (M (zgr x0 0) (zix ((-1) - v1))) M)) (k3 v1 M)))))))))
    refine ev_iload_n dd_X0_holds_4 2 rfl ?_
    refine ev_aload_n dd_X0_holds_5 0 rfl ?_
    refine ev_getI gf_RX0_21 dd_X0_holds_6 hx0 (by decide) ?_
    refine ev_icmp_ge 137 dd_X0_holds_9 (by decide) ?_ ?_
    · refine ev_lv (lv' := [(0, .ref (G.2.1 + x0)), (1, .int x1)]) [0, 1] rfl ?_
      exact hK137 _ _
    · refine ev_aload_n dd_X0_holds_12 0 rfl ?_
      refine ev_getR gf_RX0_15 dd_X0_holds_13 hx0 (by decide) ?_
      refine ev_iload_n dd_X0_holds_16 2 rfl ?_
      refine ev_iald dd_X0_holds_17 ((zg_0_1 hx0).1) ((zg_0_1 hx0).2) ?_
      refine ev_topi (fun v1 => ?_)
      refine ev_istore_n (i := 3) (lv' := [(0, .ref (G.2.1 + x0)), (1, .int x1), (2, .int x2), (3, .int v1)]) [1, 2, 3, 0] dd_X0_holds_18 rfl (by decide) rfl ?_
      refine ev_iload_n dd_X0_holds_19 3 rfl ?_
      refine ev_bipush (v := (-7)) dd_X0_holds_20 (by decide) ?_
      refine ev_jo (fun (k1 : Int32 → zM → zO) => ∀ (w3 : Int32) (M7 : zM), zEv l G Y_X0_holds 2 0 131 [(0, .ref (G.2.1 + x0)), (1, .int w3), (2, .int x2)] [] M7 (k1 w3 M7)) ?_ (fun k1 hk1 => ?_)
      · intro w3 M7
        refine ev_iinc (j := 2) (v := 1) (lv' := [(0, .ref (G.2.1 + x0)), (1, .int w3), (2, .int (x2 + 1))]) [1, 2, 0] dd_X0_holds_131 rfl (by decide) (by decide) rfl ?_
        refine ev_goto 4 dd_X0_holds_134 (by decide) ?_
        exact ih _ _ _
      · refine ev_icmp_lt 59 dd_X0_holds_22 (by decide) ?_ ?_
        · refine ev_iload_n dd_X0_holds_59 3 rfl ?_
          refine ev_bipush (v := (-10)) dd_X0_holds_60 (by decide) ?_
          refine ev_icmp_ne 97 dd_X0_holds_62 (by decide) ?_ ?_
          · refine ev_iload_n dd_X0_holds_97 1 rfl ?_
            refine ev_iconst (v := 2) dd_X0_holds_98 (by decide) ?_
            refine ev_icmp_lt 131 dd_X0_holds_99 (by decide) ?_ ?_
            · refine ev_lv (lv' := [(0, .ref (G.2.1 + x0)), (1, .int x1), (2, .int x2)]) [0, 1, 2] rfl ?_
              exact hk1 _ _
            · refine ev_iinc (j := 1) (v := (-1)) (lv' := [(0, .ref (G.2.1 + x0)), (1, .int (x1 + (-1))), (2, .int x2), (3, .int v1)]) [1, 0, 2, 3] dd_X0_holds_102 rfl (by decide) (by decide) rfl ?_
              refine ev_aload_n dd_X0_holds_105 0 rfl ?_
              refine ev_getR gf_RX0_18 dd_X0_holds_106 hx0 (by decide) ?_
              refine ev_iload_n dd_X0_holds_109 1 rfl ?_
              refine ev_iconst (v := 1) dd_X0_holds_110 (by decide) ?_
              refine ev_isub dd_X0_holds_111 ?_
              refine ev_iload_n dd_X0_holds_112 3 rfl ?_
              refine ev_lv (lv' := [(0, .ref (G.2.1 + x0)), (1, .int (x1 + (-1))), (2, .int x2)]) [0, 1, 2] rfl ?_
              refine ev_aload_n dd_X0_holds_113 0 rfl ?_
              refine ev_getR gf_RX0_18 dd_X0_holds_114 hx0 (by decide) ?_
              refine ev_iload_n dd_X0_holds_117 1 rfl ?_
              refine ev_iconst (v := 1) dd_X0_holds_118 (by decide) ?_
              refine ev_isub dd_X0_holds_119 ?_
              refine ev_iald dd_X0_holds_120 ((zg_0_2 hx0).1) ((zg_0_2 hx0).2) ?_
              refine ev_aload_n dd_X0_holds_121 0 rfl ?_
              refine ev_getR gf_RX0_18 dd_X0_holds_122 hx0 (by decide) ?_
              refine ev_iload_n dd_X0_holds_125 1 rfl ?_
              refine ev_iald dd_X0_holds_126 ((zg_0_2 hx0).1) ((zg_0_2 hx0).2) ?_
              refine ev_callSI (As := [.int v1, .int (M (zgr x0 2) (zix ((x1 + (-1)) - 1))), .int (M (zgr x0 2) (zix (x1 + (-1))))]) cl_RX0_107 (ct_X0_combine l hl G v1 (M (zgr x0 2) (zix ((x1 + (-1)) - 1))) (M (zgr x0 2) (zix (x1 + (-1)))) M) dd_X0_holds_127 (by decide) (Nat.le_of_ble_eq_true rfl) (Nat.le_of_ble_eq_true rfl) rfl rfl (fun r1 M1 => ?_)
              refine ev_iast dd_X0_holds_130 ((zg_0_2 hx0).1) ((zg_0_2 hx0).2) ?_
              refine ev_st (fun M2 => ?_)
              exact hk1 _ _
          · refine ev_lv (lv' := [(0, .ref (G.2.1 + x0)), (1, .int x1), (2, .int x2)]) [0, 1, 2] rfl ?_
            refine ev_iload_n dd_X0_holds_65 1 rfl ?_
            refine ev_iconst (v := 1) dd_X0_holds_66 (by decide) ?_
            refine ev_icmp_lt 131 dd_X0_holds_67 (by decide) ?_ ?_
            · exact hk1 _ _
            · refine ev_aload_n dd_X0_holds_70 0 rfl ?_
              refine ev_getR gf_RX0_18 dd_X0_holds_71 hx0 (by decide) ?_
              refine ev_iload_n dd_X0_holds_74 1 rfl ?_
              refine ev_iconst (v := 1) dd_X0_holds_75 (by decide) ?_
              refine ev_isub dd_X0_holds_76 ?_
              refine ev_aload_n dd_X0_holds_77 0 rfl ?_
              refine ev_getR gf_RX0_18 dd_X0_holds_78 hx0 (by decide) ?_
              refine ev_iload_n dd_X0_holds_81 1 rfl ?_
              refine ev_iconst (v := 1) dd_X0_holds_82 (by decide) ?_
              refine ev_isub dd_X0_holds_83 ?_
              refine ev_iald dd_X0_holds_84 ((zg_0_2 hx0).1) ((zg_0_2 hx0).2) ?_
              refine ev_jo (fun (k2 : Int32 → zM → zO) => ∀ (w1 : Int32) (M3 : zM), zEv l G Y_X0_holds 2 0 93 [(0, .ref (G.2.1 + x0)), (1, .int x1), (2, .int x2)] [.int w1, .int (x1 - 1), .ref (G.2.1 + (zgr x0 2))] M3 (k2 w1 M3)) ?_ (fun k2 hk2 => ?_)
              · intro w1 M3
                refine ev_iast dd_X0_holds_93 ((zg_0_2 hx0).1) ((zg_0_2 hx0).2) ?_
                refine ev_st (fun M4 => ?_)
                refine ev_goto 131 dd_X0_holds_94 (by decide) ?_
                exact hk1 _ _
              · refine ev_if_ne 92 dd_X0_holds_85 (by decide) ?_ ?_
                · refine ev_iconst (v := 0) dd_X0_holds_92 (by decide) ?_
                  exact hk2 _ _
                · refine ev_iconst (v := 1) dd_X0_holds_88 (by decide) ?_
                  refine ev_goto 93 dd_X0_holds_89 (by decide) ?_
                  exact hk2 _ _
        · refine ev_iload_n dd_X0_holds_25 1 rfl ?_
          refine ev_bipush (v := 40) dd_X0_holds_26 (by decide) ?_
          refine ev_icmp_ge 131 dd_X0_holds_28 (by decide) ?_ ?_
          · refine ev_lv (lv' := [(0, .ref (G.2.1 + x0)), (1, .int x1), (2, .int x2)]) [0, 1, 2] rfl ?_
            exact hk1 _ _
          · refine ev_aload_n dd_X0_holds_31 0 rfl ?_
            refine ev_getR gf_RX0_18 dd_X0_holds_32 hx0 (by decide) ?_
            refine ev_iload_n dd_X0_holds_35 1 rfl ?_
            refine ev_iload_n dd_X0_holds_36 3 rfl ?_
            refine ev_jo (fun (k3 : Int32 → zM → zO) => ∀ (w2 : Int32) (M5 : zM), zEv l G Y_X0_holds 2 0 52 [(0, .ref (G.2.1 + x0)), (1, .int x1), (2, .int x2)] [.int w2, .int x1, .ref (G.2.1 + (zgr x0 2))] M5 (k3 w2 M5)) ?_ (fun k3 hk3 => ?_)
            · intro w2 M5
              refine ev_iast dd_X0_holds_52 ((zg_0_2 hx0).1) ((zg_0_2 hx0).2) ?_
              refine ev_st (fun M6 => ?_)
              refine ev_iinc (j := 1) (v := 1) (lv' := [(0, .ref (G.2.1 + x0)), (1, .int (x1 + 1)), (2, .int x2)]) [1, 0, 2] dd_X0_holds_53 rfl (by decide) (by decide) rfl ?_
              refine ev_goto 131 dd_X0_holds_56 (by decide) ?_
              exact hk1 _ _
            · refine ev_if_lt 44 dd_X0_holds_37 (by decide) ?_ ?_
              · refine ev_aload_n dd_X0_holds_44 0 rfl ?_
                refine ev_getR gf_RX0_11 dd_X0_holds_45 hx0 (by decide) ?_
                refine ev_iconst (v := (-1)) dd_X0_holds_48 (by decide) ?_
                refine ev_iload_n dd_X0_holds_49 3 rfl ?_
                refine ev_lv (lv' := [(0, .ref (G.2.1 + x0)), (1, .int x1), (2, .int x2)]) [0, 1, 2] rfl ?_
                refine ev_isub dd_X0_holds_50 ?_
                refine ev_iald dd_X0_holds_51 ((zg_0_0 hx0).1) ((zg_0_0 hx0).2) ?_
                exact hk3 _ _
              · refine ev_iload_n dd_X0_holds_40 3 rfl ?_
                refine ev_lv (lv' := [(0, .ref (G.2.1 + x0)), (1, .int x1), (2, .int x2)]) [0, 1, 2] rfl ?_
                refine ev_goto 52 dd_X0_holds_41 (by decide) ?_
                exact hk3 _ _
set_option maxHeartbeats 1000000 in
set_option maxRecDepth 20000 in
theorem ct_X0_holds (l : Launch) (hl : l.stackTraces = false) (G : zG) (t : Nat) (ht : zsh t = 0) (M : zM) : zMt l G Y_X0_holds 2 [.ref (G.2.1 + t)] M (F_X0_holds t M) := by
  refine zMt_of (by decide +kernel) (Nat.le_of_ble_eq_true rfl) ?_
  show zEv l G Y_X0_holds 2 0 0 [(0, .ref (G.2.1 + t))] [] M (F_X0_holds_L4 t (fun (y1 : Int32) (M8 : zM) => zjo (fun (w4 : Int32) (M10 : zM) => zck (zbo w4) (zI w4 M10)) (fun (k4 : Int32 → zM → zO) => zjo (fun  (M9 : zM) => k4 0 M9) (fun (k5 : zM → zO) => zit (y1 < 1) (k5 M8) (zck (zin (y1 - 1) 40) (zit ((M8 (zgr t 2) (zix (y1 - 1))) = 0) (k5 M8) (k4 1 M8)))))) zN 0 0 M)
  refine ev_iconst (v := 0) dd_X0_holds_0 (by decide) ?_
  refine ev_istore_n (i := 1) (lv' := [(0, .ref (G.2.1 + t)), (1, .int 0)]) [1, 0] dd_X0_holds_1 rfl (by decide) rfl ?_
  refine ev_iconst (v := 0) dd_X0_holds_2 (by decide) ?_
  refine ev_istore_n (i := 2) (lv' := [(0, .ref (G.2.1 + t)), (1, .int 0), (2, .int 0)]) [1, 2, 0] dd_X0_holds_3 rfl (by decide) rfl ?_
  refine ct_X0_holds_L4 l hl G t ht _ (fun y1 M8 => ?_) zN _ _ _
  refine ev_iload_n dd_X0_holds_137 1 rfl ?_
  refine ev_iconst (v := 1) dd_X0_holds_138 (by decide) ?_
  refine ev_jo (fun (k4 : Int32 → zM → zO) => ∀ (w4 : Int32) (M10 : zM), zEv l G Y_X0_holds 2 0 158 [] [.int w4] M10 (k4 w4 M10)) ?_ (fun k4 hk4 => ?_)
  · intro w4 M10
    exact ev_zret dd_X0_holds_158 rfl (Nat.le_of_ble_eq_true rfl) rfl
  · refine ev_jo (fun (k5 : zM → zO) => ∀  (M9 : zM), zEv l G Y_X0_holds 2 0 157 [] [] M9 (k5 M9)) ?_ (fun k5 hk5 => ?_)
    · intro M9
      refine ev_iconst (v := 0) dd_X0_holds_157 (by decide) ?_
      exact hk4 _ _
    · refine ev_icmp_lt 157 dd_X0_holds_139 (by decide) ?_ ?_
      · refine ev_lv (lv' := []) [] rfl ?_
        exact hk5 _
      · refine ev_aload_n dd_X0_holds_142 0 rfl ?_
        refine ev_lv (lv' := [(1, .int y1)]) [1] rfl ?_
        refine ev_getR gf_RX0_18 dd_X0_holds_143 ht (by decide) ?_
        refine ev_iload_n dd_X0_holds_146 0 rfl ?_
        refine ev_lv (lv' := []) [] rfl ?_
        refine ev_iconst (v := 1) dd_X0_holds_147 (by decide) ?_
        refine ev_isub dd_X0_holds_148 ?_
        refine ev_iald dd_X0_holds_149 ((zg_0_2 ht).1) ((zg_0_2 ht).2) ?_
        refine ev_if_eq 157 dd_X0_holds_150 (by decide) ?_ ?_
        · exact hk5 _
        · refine ev_iconst (v := 1) dd_X0_holds_153 (by decide) ?_
          refine ev_goto 158 dd_X0_holds_154 (by decide) ?_
          exact hk4 _ _
/-! X8_at -/
theorem dd_X8_at_0 : decode Y_X8_at.2.1 0 = .ok (.iload_n 1, 1) := by decide +kernel
theorem dd_X8_at_1 : decode Y_X8_at.2.1 1 = .ok (.ifCond .lt 24, 3) := by decide +kernel
theorem dd_X8_at_4 : decode Y_X8_at.2.1 4 = .ok (.iload_n 1, 1) := by decide +kernel
theorem dd_X8_at_5 : decode Y_X8_at.2.1 5 = .ok (.aload_n 0, 1) := by decide +kernel
theorem dd_X8_at_6 : decode Y_X8_at.2.1 6 = .ok (.getfield 19, 3) := by decide +kernel
theorem dd_X8_at_9 : decode Y_X8_at.2.1 9 = .ok (.if_icmp .ge 16, 3) := by decide +kernel
theorem dd_X8_at_12 : decode Y_X8_at.2.1 12 = .ok (.aload_n 0, 1) := by decide +kernel
theorem dd_X8_at_13 : decode Y_X8_at.2.1 13 = .ok (.getfield 9, 3) := by decide +kernel
theorem dd_X8_at_16 : decode Y_X8_at.2.1 16 = .ok (.iload_n 1, 1) := by decide +kernel
theorem dd_X8_at_17 : decode Y_X8_at.2.1 17 = .ok (.baload, 1) := by decide +kernel
theorem dd_X8_at_18 : decode Y_X8_at.2.1 18 = .ok (.sipush 255, 3) := by decide +kernel
theorem dd_X8_at_21 : decode Y_X8_at.2.1 21 = .ok (.iand, 1) := by decide +kernel
theorem dd_X8_at_22 : decode Y_X8_at.2.1 22 = .ok (.goto 4, 3) := by decide +kernel
theorem dd_X8_at_25 : decode Y_X8_at.2.1 25 = .ok (.iconst 0, 1) := by decide +kernel
theorem dd_X8_at_26 : decode Y_X8_at.2.1 26 = .ok (.ireturn, 1) := by decide +kernel
def F_X8_at (t : Nat) (a1 : Int32) (M : zM) : zO := zjo (fun (w1 : Int32) (M2 : zM) => zI w1 M2) (fun (k1 : Int32 → zM → zO) => zjo (fun  (M1 : zM) => k1 0 M1) (fun (k2 : zM → zO) => zit (a1 < 0) (k2 M) (zit ((M t 2) ≤ a1) (k2 M) (zck (zin a1 700) (k1 ((M (zgr t 0) (zix a1)) &&& 255) M)))))
set_option maxHeartbeats 1000000 in
set_option maxRecDepth 20000 in
theorem ct_X8_at (l : Launch) (hl : l.stackTraces = false) (G : zG) (t : Nat) (ht : zsh t = 8) (a1 : Int32) (M : zM) : zMt l G Y_X8_at 1 [.ref (G.2.1 + t), .int a1] M (F_X8_at t a1 M) := by
  refine zMt_of (by decide +kernel) (Nat.le_of_ble_eq_true rfl) ?_
  show zEv l G Y_X8_at 1 0 0 [(0, .ref (G.2.1 + t)), (1, .int a1)] [] M (zjo (fun (w1 : Int32) (M2 : zM) => zI w1 M2) (fun (k1 : Int32 → zM → zO) => zjo (fun  (M1 : zM) => k1 0 M1) (fun (k2 : zM → zO) => zit (a1 < 0) (k2 M) (zit ((M t 2) ≤ a1) (k2 M) (zck (zin a1 700) (k1 ((M (zgr t 0) (zix a1)) &&& 255) M))))))
  refine ev_iload_n dd_X8_at_0 1 rfl ?_
  refine ev_jo (fun (k1 : Int32 → zM → zO) => ∀ (w1 : Int32) (M2 : zM), zEv l G Y_X8_at 1 0 26 [] [.int w1] M2 (k1 w1 M2)) ?_ (fun k1 hk1 => ?_)
  · intro w1 M2
    exact ev_iret dd_X8_at_26 rfl (Nat.le_of_ble_eq_true rfl) rfl
  · refine ev_jo (fun (k2 : zM → zO) => ∀  (M1 : zM), zEv l G Y_X8_at 1 0 25 [] [] M1 (k2 M1)) ?_ (fun k2 hk2 => ?_)
    · intro M1
      refine ev_iconst (v := 0) dd_X8_at_25 (by decide) ?_
      exact hk1 _ _
    · refine ev_if_lt 25 dd_X8_at_1 (by decide) ?_ ?_
      · refine ev_lv (lv' := []) [] rfl ?_
        exact hk2 _
      · refine ev_iload_n dd_X8_at_4 1 rfl ?_
        refine ev_aload_n dd_X8_at_5 0 rfl ?_
        refine ev_getI gf_RX8_19 dd_X8_at_6 ht (by decide) ?_
        refine ev_icmp_ge 25 dd_X8_at_9 (by decide) ?_ ?_
        · refine ev_lv (lv' := []) [] rfl ?_
          exact hk2 _
        · refine ev_aload_n dd_X8_at_12 0 rfl ?_
          refine ev_lv (lv' := [(1, .int a1)]) [1] rfl ?_
          refine ev_getR gf_RX8_9 dd_X8_at_13 ht (by decide) ?_
          refine ev_iload_n dd_X8_at_16 0 rfl ?_
          refine ev_lv (lv' := []) [] rfl ?_
          refine ev_bald dd_X8_at_17 ((zg_8_0 ht).1) ((zg_8_0 ht).2) ?_
          refine ev_sipush (v := 255) dd_X8_at_18 (by decide) ?_
          refine ev_iand dd_X8_at_21 ?_
          refine ev_goto 26 dd_X8_at_22 (by decide) ?_
          exact hk1 _ _
/-! X8_size -/
theorem dd_X8_size_0 : decode Y_X8_size.2.1 0 = .ok (.aload_n 0, 1) := by decide +kernel
theorem dd_X8_size_1 : decode Y_X8_size.2.1 1 = .ok (.getfield 28, 3) := by decide +kernel
theorem dd_X8_size_4 : decode Y_X8_size.2.1 4 = .ok (.aload_n 0, 1) := by decide +kernel
theorem dd_X8_size_5 : decode Y_X8_size.2.1 5 = .ok (.getfield 25, 3) := by decide +kernel
theorem dd_X8_size_8 : decode Y_X8_size.2.1 8 = .ok (.isub, 1) := by decide +kernel
theorem dd_X8_size_9 : decode Y_X8_size.2.1 9 = .ok (.ireturn, 1) := by decide +kernel
def F_X8_size (t : Nat) (M : zM) : zO := zI ((M t 5) - (M t 4)) M
set_option maxHeartbeats 1000000 in
set_option maxRecDepth 20000 in
theorem ct_X8_size (l : Launch) (hl : l.stackTraces = false) (G : zG) (t : Nat) (ht : zsh t = 8) (M : zM) : zMt l G Y_X8_size 1 [.ref (G.2.1 + t)] M (F_X8_size t M) := by
  refine zMt_of (by decide +kernel) (Nat.le_of_ble_eq_true rfl) ?_
  show zEv l G Y_X8_size 1 0 0 [(0, .ref (G.2.1 + t))] [] M (zI ((M t 5) - (M t 4)) M)
  refine ev_aload_n dd_X8_size_0 0 rfl ?_
  refine ev_getI gf_RX8_28 dd_X8_size_1 ht (by decide) ?_
  refine ev_aload_n dd_X8_size_4 0 rfl ?_
  refine ev_lv (lv' := []) [] rfl ?_
  refine ev_getI gf_RX8_25 dd_X8_size_5 ht (by decide) ?_
  refine ev_isub dd_X8_size_8 ?_
  exact ev_iret dd_X8_size_9 rfl (Nat.le_of_ble_eq_true rfl) rfl
/-! X8_isWord -/
theorem dd_X8_isWord_0 : decode Y_X8_isWord.2.1 0 = .ok (.aload_n 0, 1) := by decide +kernel
theorem dd_X8_isWord_1 : decode Y_X8_isWord.2.1 1 = .ok (.getfield 22, 3) := by decide +kernel
theorem dd_X8_isWord_4 : decode Y_X8_isWord.2.1 4 = .ok (.sipush 257, 3) := by decide +kernel
theorem dd_X8_isWord_7 : decode Y_X8_isWord.2.1 7 = .ok (.if_icmp .ne 14, 3) := by decide +kernel
theorem dd_X8_isWord_10 : decode Y_X8_isWord.2.1 10 = .ok (.aload_n 0, 1) := by decide +kernel
theorem dd_X8_isWord_11 : decode Y_X8_isWord.2.1 11 = .ok (.invokevirtual 57, 3) := by decide +kernel
theorem dd_X8_isWord_14 : decode Y_X8_isWord.2.1 14 = .ok (.aload_n 1, 1) := by decide +kernel
theorem dd_X8_isWord_15 : decode Y_X8_isWord.2.1 15 = .ok (.invokevirtual 61, 3) := by decide +kernel
theorem dd_X8_isWord_18 : decode Y_X8_isWord.2.1 18 = .ok (.if_icmp .eq 5, 3) := by decide +kernel
theorem dd_X8_isWord_21 : decode Y_X8_isWord.2.1 21 = .ok (.iconst 0, 1) := by decide +kernel
theorem dd_X8_isWord_22 : decode Y_X8_isWord.2.1 22 = .ok (.ireturn, 1) := by decide +kernel
theorem dd_X8_isWord_23 : decode Y_X8_isWord.2.1 23 = .ok (.iconst 0, 1) := by decide +kernel
theorem dd_X8_isWord_24 : decode Y_X8_isWord.2.1 24 = .ok (.istore_n 2, 1) := by decide +kernel
theorem dd_X8_isWord_25 : decode Y_X8_isWord.2.1 25 = .ok (.iload_n 2, 1) := by decide +kernel
theorem dd_X8_isWord_26 : decode Y_X8_isWord.2.1 26 = .ok (.aload_n 1, 1) := by decide +kernel
theorem dd_X8_isWord_27 : decode Y_X8_isWord.2.1 27 = .ok (.invokevirtual 61, 3) := by decide +kernel
theorem dd_X8_isWord_30 : decode Y_X8_isWord.2.1 30 = .ok (.if_icmp .ge 29, 3) := by decide +kernel
theorem dd_X8_isWord_33 : decode Y_X8_isWord.2.1 33 = .ok (.aload_n 0, 1) := by decide +kernel
theorem dd_X8_isWord_34 : decode Y_X8_isWord.2.1 34 = .ok (.aload_n 0, 1) := by decide +kernel
theorem dd_X8_isWord_35 : decode Y_X8_isWord.2.1 35 = .ok (.getfield 25, 3) := by decide +kernel
theorem dd_X8_isWord_38 : decode Y_X8_isWord.2.1 38 = .ok (.iload_n 2, 1) := by decide +kernel
theorem dd_X8_isWord_39 : decode Y_X8_isWord.2.1 39 = .ok (.iadd, 1) := by decide +kernel
theorem dd_X8_isWord_40 : decode Y_X8_isWord.2.1 40 = .ok (.invokevirtual 43, 3) := by decide +kernel
theorem dd_X8_isWord_43 : decode Y_X8_isWord.2.1 43 = .ok (.aload_n 1, 1) := by decide +kernel
theorem dd_X8_isWord_44 : decode Y_X8_isWord.2.1 44 = .ok (.iload_n 2, 1) := by decide +kernel
theorem dd_X8_isWord_45 : decode Y_X8_isWord.2.1 45 = .ok (.invokevirtual 63, 3) := by decide +kernel
theorem dd_X8_isWord_48 : decode Y_X8_isWord.2.1 48 = .ok (.if_icmp .eq 5, 3) := by decide +kernel
theorem dd_X8_isWord_51 : decode Y_X8_isWord.2.1 51 = .ok (.iconst 0, 1) := by decide +kernel
theorem dd_X8_isWord_52 : decode Y_X8_isWord.2.1 52 = .ok (.ireturn, 1) := by decide +kernel
theorem dd_X8_isWord_53 : decode Y_X8_isWord.2.1 53 = .ok (.iinc 2 1, 3) := by decide +kernel
theorem dd_X8_isWord_56 : decode Y_X8_isWord.2.1 56 = .ok (.goto (-31), 3) := by decide +kernel
theorem dd_X8_isWord_59 : decode Y_X8_isWord.2.1 59 = .ok (.iconst 1, 1) := by decide +kernel
theorem dd_X8_isWord_60 : decode Y_X8_isWord.2.1 60 = .ok (.ireturn, 1) := by decide +kernel
def F_X8_isWord_L25 (x0 : Nat) (x1 : Nat) (K59 : zM → zO) : Nat → Int32 → zM → zO
  | 0, _, _ => none
  | n + 1, x2, M => zbI (F_J0_length_8abf5 x1 M) (fun r3 M3 => zit (r3 ≤ x2) (K59 M3) (zbI (F_X8_at x0 ((M3 x0 4) + x2) M3) (fun r4 M4 => zbI (F_J0_charAt_5068e x1 x2 M4) (fun r5 M5 => zit (r4 = r5) (F_X8_isWord_L25 x0 x1 K59 n (x2 + 1) M5) (zck (zbo 0) (zI 0 M5))))))
def F_X8_isWord (t : Nat) (a1 : Nat) (M : zM) : zO := zjo (fun  (M7 : zM) => zck (zbo 0) (zI 0 M7)) (fun (k1 : zM → zO) => zit ((M t 3) = 257) (zbI (F_X8_size t M) (fun r1 M1 => zbI (F_J0_length_8abf5 a1 M1) (fun r2 M2 => zit (r1 = r2) (F_X8_isWord_L25 t a1 (fun  (M6 : zM) => zck (zbo 1) (zI 1 M6)) zN 0 M2) (k1 M2)))) (k1 M))
set_option maxHeartbeats 1000000 in
set_option maxRecDepth 20000 in
theorem ct_X8_isWord_L25 (l : Launch) (hl : l.stackTraces = false) (G : zG) (x0 : Nat) (hx0 : zsh x0 = 8) (x1 : Nat) (hx1 : x1 < zNS) (K59 : zM → zO) (hK59 : ∀  (M : zM), zEv l G Y_X8_isWord 5 0 59 [] [] M (K59 M)) : ∀ (n : Nat) (x2 : Int32) (M : zM), zEv l G Y_X8_isWord 5 0 25 [(0, .ref (G.2.1 + x0)), (1, .ref (G.2.2.2.1 x1)), (2, .int x2)] [] M (F_X8_isWord_L25 x0 x1 K59 n x2 M) := by
  intro n
  induction n with
  | zero => intro x2 M; exact ev_none
  | succ n ih =>
    intro x2 M
    show zEv l G Y_X8_isWord 5 0 25 [(0, .ref (G.2.1 + x0)), (1, .ref (G.2.2.2.1 x1)), (2, .int x2)] [] M (zbI (F_J0_length_8abf5 x1 M) (fun r3 M3 => zit (r3 ≤ x2) (K59 M3) (zbI (F_X8_at x0 ((M3 x0 4) + x2) M3) (fun r4 M4 => zbI (F_J0_charAt_5068e x1 x2 M4) (fun r5 M5 => zit (r4 = r5) (F_X8_isWord_L25 x0 x1 K59 n (x2 + 1) M5) (zck (zbo 0) (zI 0 M5)))))))
    refine ev_iload_n dd_X8_isWord_25 2 rfl ?_
    refine ev_aload_n dd_X8_isWord_26 1 rfl ?_
    refine ev_callTI (As := []) cl_RX8_61 (ct_J0_length_8abf5 l hl G x1 hx1 M) dd_X8_isWord_27 hx1 (by decide) (Nat.le_of_ble_eq_true rfl) (Nat.le_of_ble_eq_true rfl) rfl rfl (fun r3 M3 => ?_)
    refine ev_icmp_ge 59 dd_X8_isWord_30 (by decide) ?_ ?_
    · refine ev_lv (lv' := []) [] rfl ?_
      exact hK59 _
    · refine ev_aload_n dd_X8_isWord_33 0 rfl ?_
      refine ev_aload_n dd_X8_isWord_34 0 rfl ?_
      refine ev_getI gf_RX8_25 dd_X8_isWord_35 hx0 (by decide) ?_
      refine ev_iload_n dd_X8_isWord_38 2 rfl ?_
      refine ev_iadd dd_X8_isWord_39 ?_
      refine ev_callVI (As := [.int ((M3 x0 4) + x2)]) cl_RX8_43 (ct_X8_at l hl G x0 hx0 ((M3 x0 4) + x2) M3) dd_X8_isWord_40 hx0 (by decide) (Nat.le_of_ble_eq_true rfl) (Nat.le_of_ble_eq_true rfl) rfl rfl (fun r4 M4 => ?_)
      refine ev_aload_n dd_X8_isWord_43 1 rfl ?_
      refine ev_iload_n dd_X8_isWord_44 2 rfl ?_
      refine ev_callTI (As := [.int x2]) cl_RX8_63 (ct_J0_charAt_5068e l hl G x1 hx1 x2 M4) dd_X8_isWord_45 hx1 (by decide) (Nat.le_of_ble_eq_true rfl) (Nat.le_of_ble_eq_true rfl) rfl rfl (fun r5 M5 => ?_)
      refine ev_icmp_eq 53 dd_X8_isWord_48 (by decide) ?_ ?_
      · refine ev_iinc (j := 2) (v := 1) (lv' := [(0, .ref (G.2.1 + x0)), (1, .ref (G.2.2.2.1 x1)), (2, .int (x2 + 1))]) [1, 2, 0] dd_X8_isWord_53 rfl (by decide) (by decide) rfl ?_
        refine ev_goto 25 dd_X8_isWord_56 (by decide) ?_
        exact ih _ _
      · refine ev_lv (lv' := []) [] rfl ?_
        refine ev_iconst (v := 0) dd_X8_isWord_51 (by decide) ?_
        exact ev_zret dd_X8_isWord_52 rfl (Nat.le_of_ble_eq_true rfl) rfl
set_option maxHeartbeats 1000000 in
set_option maxRecDepth 20000 in
theorem ct_X8_isWord (l : Launch) (hl : l.stackTraces = false) (G : zG) (t : Nat) (ht : zsh t = 8) (a1 : Nat) (ha1 : a1 < zNS) (M : zM) : zMt l G Y_X8_isWord 5 [.ref (G.2.1 + t), .ref (G.2.2.2.1 a1)] M (F_X8_isWord t a1 M) := by
  refine zMt_of (by decide +kernel) (Nat.le_of_ble_eq_true rfl) ?_
  show zEv l G Y_X8_isWord 5 0 0 [(0, .ref (G.2.1 + t)), (1, .ref (G.2.2.2.1 a1))] [] M (zjo (fun  (M7 : zM) => zck (zbo 0) (zI 0 M7)) (fun (k1 : zM → zO) => zit ((M t 3) = 257) (zbI (F_X8_size t M) (fun r1 M1 => zbI (F_J0_length_8abf5 a1 M1) (fun r2 M2 => zit (r1 = r2) (F_X8_isWord_L25 t a1 (fun  (M6 : zM) => zck (zbo 1) (zI 1 M6)) zN 0 M2) (k1 M2)))) (k1 M)))
  refine ev_aload_n dd_X8_isWord_0 0 rfl ?_
  refine ev_getI gf_RX8_22 dd_X8_isWord_1 ht (by decide) ?_
  refine ev_sipush (v := 257) dd_X8_isWord_4 (by decide) ?_
  refine ev_jo (fun (k1 : zM → zO) => ∀  (M7 : zM), zEv l G Y_X8_isWord 5 0 21 [] [] M7 (k1 M7)) ?_ (fun k1 hk1 => ?_)
  · intro M7
    refine ev_iconst (v := 0) dd_X8_isWord_21 (by decide) ?_
    exact ev_zret dd_X8_isWord_22 rfl (Nat.le_of_ble_eq_true rfl) rfl
  · refine ev_icmp_ne 21 dd_X8_isWord_7 (by decide) ?_ ?_
    · refine ev_lv (lv' := []) [] rfl ?_
      exact hk1 _
    · refine ev_aload_n dd_X8_isWord_10 0 rfl ?_
      refine ev_callVI (As := []) cl_RX8_57 (ct_X8_size l hl G t ht M) dd_X8_isWord_11 ht (by decide) (Nat.le_of_ble_eq_true rfl) (Nat.le_of_ble_eq_true rfl) rfl rfl (fun r1 M1 => ?_)
      refine ev_aload_n dd_X8_isWord_14 1 rfl ?_
      refine ev_callTI (As := []) cl_RX8_61 (ct_J0_length_8abf5 l hl G a1 ha1 M1) dd_X8_isWord_15 ha1 (by decide) (Nat.le_of_ble_eq_true rfl) (Nat.le_of_ble_eq_true rfl) rfl rfl (fun r2 M2 => ?_)
      refine ev_icmp_eq 23 dd_X8_isWord_18 (by decide) ?_ ?_
      · refine ev_iconst (v := 0) dd_X8_isWord_23 (by decide) ?_
        refine ev_istore_n (i := 2) (lv' := [(0, .ref (G.2.1 + t)), (1, .ref (G.2.2.2.1 a1)), (2, .int 0)]) [1, 2, 0] dd_X8_isWord_24 rfl (by decide) rfl ?_
        refine ct_X8_isWord_L25 l hl G t ht a1 ha1 _ (fun M6 => ?_) zN _ _
        refine ev_iconst (v := 1) dd_X8_isWord_59 (by decide) ?_
        exact ev_zret dd_X8_isWord_60 rfl (Nat.le_of_ble_eq_true rfl) rfl
      · refine ev_lv (lv' := []) [] rfl ?_
        exact hk1 _
/-! X0_valueAt -/
theorem dd_X0_valueAt_0 : decode Y_X0_valueAt.2.1 0 = .ok (.aload_n 0, 1) := by decide +kernel
theorem dd_X0_valueAt_1 : decode Y_X0_valueAt.2.1 1 = .ok (.ldc 93, 2) := by decide +kernel
theorem dd_X0_valueAt_3 : decode Y_X0_valueAt.2.1 3 = .ok (.invokevirtual 50, 3) := by decide +kernel
theorem dd_X0_valueAt_6 : decode Y_X0_valueAt.2.1 6 = .ok (.ifCond .eq 5, 3) := by decide +kernel
theorem dd_X0_valueAt_9 : decode Y_X0_valueAt.2.1 9 = .ok (.iconst 0, 1) := by decide +kernel
theorem dd_X0_valueAt_10 : decode Y_X0_valueAt.2.1 10 = .ok (.ireturn, 1) := by decide +kernel
theorem dd_X0_valueAt_11 : decode Y_X0_valueAt.2.1 11 = .ok (.aload_n 0, 1) := by decide +kernel
theorem dd_X0_valueAt_12 : decode Y_X0_valueAt.2.1 12 = .ok (.ldc 95, 2) := by decide +kernel
theorem dd_X0_valueAt_14 : decode Y_X0_valueAt.2.1 14 = .ok (.invokevirtual 50, 3) := by decide +kernel
theorem dd_X0_valueAt_17 : decode Y_X0_valueAt.2.1 17 = .ok (.ifCond .eq 5, 3) := by decide +kernel
theorem dd_X0_valueAt_20 : decode Y_X0_valueAt.2.1 20 = .ok (.iconst 1, 1) := by decide +kernel
theorem dd_X0_valueAt_21 : decode Y_X0_valueAt.2.1 21 = .ok (.ireturn, 1) := by decide +kernel
theorem dd_X0_valueAt_22 : decode Y_X0_valueAt.2.1 22 = .ok (.aload_n 0, 1) := by decide +kernel
theorem dd_X0_valueAt_23 : decode Y_X0_valueAt.2.1 23 = .ok (.ldc 97, 2) := by decide +kernel
theorem dd_X0_valueAt_25 : decode Y_X0_valueAt.2.1 25 = .ok (.invokevirtual 50, 3) := by decide +kernel
theorem dd_X0_valueAt_28 : decode Y_X0_valueAt.2.1 28 = .ok (.ifCond .eq 5, 3) := by decide +kernel
theorem dd_X0_valueAt_31 : decode Y_X0_valueAt.2.1 31 = .ok (.iconst 2, 1) := by decide +kernel
theorem dd_X0_valueAt_32 : decode Y_X0_valueAt.2.1 32 = .ok (.ireturn, 1) := by decide +kernel
theorem dd_X0_valueAt_33 : decode Y_X0_valueAt.2.1 33 = .ok (.aload_n 0, 1) := by decide +kernel
theorem dd_X0_valueAt_34 : decode Y_X0_valueAt.2.1 34 = .ok (.ldc 99, 2) := by decide +kernel
theorem dd_X0_valueAt_36 : decode Y_X0_valueAt.2.1 36 = .ok (.invokevirtual 50, 3) := by decide +kernel
theorem dd_X0_valueAt_39 : decode Y_X0_valueAt.2.1 39 = .ok (.ifCond .eq 5, 3) := by decide +kernel
theorem dd_X0_valueAt_42 : decode Y_X0_valueAt.2.1 42 = .ok (.iconst 3, 1) := by decide +kernel
theorem dd_X0_valueAt_43 : decode Y_X0_valueAt.2.1 43 = .ok (.ireturn, 1) := by decide +kernel
theorem dd_X0_valueAt_44 : decode Y_X0_valueAt.2.1 44 = .ok (.aload_n 0, 1) := by decide +kernel
theorem dd_X0_valueAt_45 : decode Y_X0_valueAt.2.1 45 = .ok (.ldc 101, 2) := by decide +kernel
theorem dd_X0_valueAt_47 : decode Y_X0_valueAt.2.1 47 = .ok (.invokevirtual 50, 3) := by decide +kernel
theorem dd_X0_valueAt_50 : decode Y_X0_valueAt.2.1 50 = .ok (.ifCond .eq 5, 3) := by decide +kernel
theorem dd_X0_valueAt_53 : decode Y_X0_valueAt.2.1 53 = .ok (.iconst 4, 1) := by decide +kernel
theorem dd_X0_valueAt_54 : decode Y_X0_valueAt.2.1 54 = .ok (.ireturn, 1) := by decide +kernel
theorem dd_X0_valueAt_55 : decode Y_X0_valueAt.2.1 55 = .ok (.aload_n 0, 1) := by decide +kernel
theorem dd_X0_valueAt_56 : decode Y_X0_valueAt.2.1 56 = .ok (.ldc 103, 2) := by decide +kernel
theorem dd_X0_valueAt_58 : decode Y_X0_valueAt.2.1 58 = .ok (.invokevirtual 50, 3) := by decide +kernel
theorem dd_X0_valueAt_61 : decode Y_X0_valueAt.2.1 61 = .ok (.ifCond .eq 5, 3) := by decide +kernel
theorem dd_X0_valueAt_64 : decode Y_X0_valueAt.2.1 64 = .ok (.iconst 5, 1) := by decide +kernel
theorem dd_X0_valueAt_65 : decode Y_X0_valueAt.2.1 65 = .ok (.ireturn, 1) := by decide +kernel
theorem dd_X0_valueAt_66 : decode Y_X0_valueAt.2.1 66 = .ok (.aload_n 0, 1) := by decide +kernel
theorem dd_X0_valueAt_67 : decode Y_X0_valueAt.2.1 67 = .ok (.ldc 105, 2) := by decide +kernel
theorem dd_X0_valueAt_69 : decode Y_X0_valueAt.2.1 69 = .ok (.invokevirtual 50, 3) := by decide +kernel
theorem dd_X0_valueAt_72 : decode Y_X0_valueAt.2.1 72 = .ok (.ifCond .eq 8, 3) := by decide +kernel
theorem dd_X0_valueAt_75 : decode Y_X0_valueAt.2.1 75 = .ok (.bipush 6, 2) := by decide +kernel
theorem dd_X0_valueAt_77 : decode Y_X0_valueAt.2.1 77 = .ok (.goto 4, 3) := by decide +kernel
theorem dd_X0_valueAt_80 : decode Y_X0_valueAt.2.1 80 = .ok (.iconst (-1), 1) := by decide +kernel
theorem dd_X0_valueAt_81 : decode Y_X0_valueAt.2.1 81 = .ok (.ireturn, 1) := by decide +kernel
def F_X0_valueAt (a0 : Nat) (M : zM) : zO := zbI (F_X8_isWord a0 10 M) (fun r1 M1 => zit (r1 = 0) (zbI (F_X8_isWord a0 11 M1) (fun r2 M2 => zit (r2 = 0) (zbI (F_X8_isWord a0 12 M2) (fun r3 M3 => zit (r3 = 0) (zbI (F_X8_isWord a0 13 M3) (fun r4 M4 => zit (r4 = 0) (zbI (F_X8_isWord a0 14 M4) (fun r5 M5 => zit (r5 = 0) (zbI (F_X8_isWord a0 15 M5) (fun r6 M6 => zit (r6 = 0) (zbI (F_X8_isWord a0 16 M6) (fun r7 M7 => zjo (fun (w1 : Int32) (M8 : zM) => zI w1 M8) (fun (k1 : Int32 → zM → zO) => zit (r7 = 0) (k1 (-1) M7) (k1 6 M7)))) (zI 5 M6))) (zI 4 M5))) (zI 3 M4))) (zI 2 M3))) (zI 1 M2))) (zI 0 M1))
set_option maxHeartbeats 1000000 in
set_option maxRecDepth 20000 in
theorem ct_X0_valueAt (l : Launch) (hl : l.stackTraces = false) (G : zG) (a0 : Nat) (ha0 : zsh a0 = 8) (M : zM) : zMt l G Y_X0_valueAt 6 [.ref (G.2.1 + a0)] M (F_X0_valueAt a0 M) := by
  refine zMt_of (by decide +kernel) (Nat.le_of_ble_eq_true rfl) ?_
  show zEv l G Y_X0_valueAt 6 0 0 [(0, .ref (G.2.1 + a0))] [] M (zbI (F_X8_isWord a0 10 M) (fun r1 M1 => zit (r1 = 0) (zbI (F_X8_isWord a0 11 M1) (fun r2 M2 => zit (r2 = 0) (zbI (F_X8_isWord a0 12 M2) (fun r3 M3 => zit (r3 = 0) (zbI (F_X8_isWord a0 13 M3) (fun r4 M4 => zit (r4 = 0) (zbI (F_X8_isWord a0 14 M4) (fun r5 M5 => zit (r5 = 0) (zbI (F_X8_isWord a0 15 M5) (fun r6 M6 => zit (r6 = 0) (zbI (F_X8_isWord a0 16 M6) (fun r7 M7 => zjo (fun (w1 : Int32) (M8 : zM) => zI w1 M8) (fun (k1 : Int32 → zM → zO) => zit (r7 = 0) (k1 (-1) M7) (k1 6 M7)))) (zI 5 M6))) (zI 4 M5))) (zI 3 M4))) (zI 2 M3))) (zI 1 M2))) (zI 0 M1)))
  refine ev_aload_n dd_X0_valueAt_0 0 rfl ?_
  refine ev_ldcs dd_X0_valueAt_1 sr_RX0_93 ?_
  refine ev_callVI (As := [.ref (G.2.2.2.1 10)]) cl_RX0_50 (ct_X8_isWord l hl G a0 ha0 10 (by decide) M) dd_X0_valueAt_3 ha0 (by decide) (Nat.le_of_ble_eq_true rfl) (Nat.le_of_ble_eq_true rfl) rfl rfl (fun r1 M1 => ?_)
  refine ev_if_eq 11 dd_X0_valueAt_6 (by decide) ?_ ?_
  · refine ev_aload_n dd_X0_valueAt_11 0 rfl ?_
    refine ev_ldcs dd_X0_valueAt_12 sr_RX0_95 ?_
    refine ev_callVI (As := [.ref (G.2.2.2.1 11)]) cl_RX0_50 (ct_X8_isWord l hl G a0 ha0 11 (by decide) M1) dd_X0_valueAt_14 ha0 (by decide) (Nat.le_of_ble_eq_true rfl) (Nat.le_of_ble_eq_true rfl) rfl rfl (fun r2 M2 => ?_)
    refine ev_if_eq 22 dd_X0_valueAt_17 (by decide) ?_ ?_
    · refine ev_aload_n dd_X0_valueAt_22 0 rfl ?_
      refine ev_ldcs dd_X0_valueAt_23 sr_RX0_97 ?_
      refine ev_callVI (As := [.ref (G.2.2.2.1 12)]) cl_RX0_50 (ct_X8_isWord l hl G a0 ha0 12 (by decide) M2) dd_X0_valueAt_25 ha0 (by decide) (Nat.le_of_ble_eq_true rfl) (Nat.le_of_ble_eq_true rfl) rfl rfl (fun r3 M3 => ?_)
      refine ev_if_eq 33 dd_X0_valueAt_28 (by decide) ?_ ?_
      · refine ev_aload_n dd_X0_valueAt_33 0 rfl ?_
        refine ev_ldcs dd_X0_valueAt_34 sr_RX0_99 ?_
        refine ev_callVI (As := [.ref (G.2.2.2.1 13)]) cl_RX0_50 (ct_X8_isWord l hl G a0 ha0 13 (by decide) M3) dd_X0_valueAt_36 ha0 (by decide) (Nat.le_of_ble_eq_true rfl) (Nat.le_of_ble_eq_true rfl) rfl rfl (fun r4 M4 => ?_)
        refine ev_if_eq 44 dd_X0_valueAt_39 (by decide) ?_ ?_
        · refine ev_aload_n dd_X0_valueAt_44 0 rfl ?_
          refine ev_ldcs dd_X0_valueAt_45 sr_RX0_101 ?_
          refine ev_callVI (As := [.ref (G.2.2.2.1 14)]) cl_RX0_50 (ct_X8_isWord l hl G a0 ha0 14 (by decide) M4) dd_X0_valueAt_47 ha0 (by decide) (Nat.le_of_ble_eq_true rfl) (Nat.le_of_ble_eq_true rfl) rfl rfl (fun r5 M5 => ?_)
          refine ev_if_eq 55 dd_X0_valueAt_50 (by decide) ?_ ?_
          · refine ev_aload_n dd_X0_valueAt_55 0 rfl ?_
            refine ev_ldcs dd_X0_valueAt_56 sr_RX0_103 ?_
            refine ev_callVI (As := [.ref (G.2.2.2.1 15)]) cl_RX0_50 (ct_X8_isWord l hl G a0 ha0 15 (by decide) M5) dd_X0_valueAt_58 ha0 (by decide) (Nat.le_of_ble_eq_true rfl) (Nat.le_of_ble_eq_true rfl) rfl rfl (fun r6 M6 => ?_)
            refine ev_if_eq 66 dd_X0_valueAt_61 (by decide) ?_ ?_
            · refine ev_aload_n dd_X0_valueAt_66 0 rfl ?_
              refine ev_lv (lv' := []) [] rfl ?_
              refine ev_ldcs dd_X0_valueAt_67 sr_RX0_105 ?_
              refine ev_callVI (As := [.ref (G.2.2.2.1 16)]) cl_RX0_50 (ct_X8_isWord l hl G a0 ha0 16 (by decide) M6) dd_X0_valueAt_69 ha0 (by decide) (Nat.le_of_ble_eq_true rfl) (Nat.le_of_ble_eq_true rfl) rfl rfl (fun r7 M7 => ?_)
              refine ev_jo (fun (k1 : Int32 → zM → zO) => ∀ (w1 : Int32) (M8 : zM), zEv l G Y_X0_valueAt 6 0 81 [] [.int w1] M8 (k1 w1 M8)) ?_ (fun k1 hk1 => ?_)
              · intro w1 M8
                exact ev_iret dd_X0_valueAt_81 rfl (Nat.le_of_ble_eq_true rfl) rfl
              · refine ev_if_eq 80 dd_X0_valueAt_72 (by decide) ?_ ?_
                · refine ev_iconst (v := (-1)) dd_X0_valueAt_80 (by decide) ?_
                  exact hk1 _ _
                · refine ev_bipush (v := 6) dd_X0_valueAt_75 (by decide) ?_
                  refine ev_goto 81 dd_X0_valueAt_77 (by decide) ?_
                  exact hk1 _ _
            · refine ev_lv (lv' := []) [] rfl ?_
              refine ev_iconst (v := 5) dd_X0_valueAt_64 (by decide) ?_
              exact ev_iret dd_X0_valueAt_65 rfl (Nat.le_of_ble_eq_true rfl) rfl
          · refine ev_lv (lv' := []) [] rfl ?_
            refine ev_iconst (v := 4) dd_X0_valueAt_53 (by decide) ?_
            exact ev_iret dd_X0_valueAt_54 rfl (Nat.le_of_ble_eq_true rfl) rfl
        · refine ev_lv (lv' := []) [] rfl ?_
          refine ev_iconst (v := 3) dd_X0_valueAt_42 (by decide) ?_
          exact ev_iret dd_X0_valueAt_43 rfl (Nat.le_of_ble_eq_true rfl) rfl
      · refine ev_lv (lv' := []) [] rfl ?_
        refine ev_iconst (v := 2) dd_X0_valueAt_31 (by decide) ?_
        exact ev_iret dd_X0_valueAt_32 rfl (Nat.le_of_ble_eq_true rfl) rfl
    · refine ev_lv (lv' := []) [] rfl ?_
      refine ev_iconst (v := 1) dd_X0_valueAt_20 (by decide) ?_
      exact ev_iret dd_X0_valueAt_21 rfl (Nat.le_of_ble_eq_true rfl) rfl
  · refine ev_lv (lv' := []) [] rfl ?_
    refine ev_iconst (v := 0) dd_X0_valueAt_9 (by decide) ?_
    exact ev_iret dd_X0_valueAt_10 rfl (Nat.le_of_ble_eq_true rfl) rfl
/-! X8_refuse -/
theorem dd_X8_refuse_0 : decode Y_X8_refuse.2.1 0 = .ok (.aload_n 0, 1) := by decide +kernel
theorem dd_X8_refuse_1 : decode Y_X8_refuse.2.1 1 = .ok (.getfield 34, 3) := by decide +kernel
theorem dd_X8_refuse_4 : decode Y_X8_refuse.2.1 4 = .ok (.ifCond .ne 23, 3) := by decide +kernel
theorem dd_X8_refuse_7 : decode Y_X8_refuse.2.1 7 = .ok (.aload_n 0, 1) := by decide +kernel
theorem dd_X8_refuse_8 : decode Y_X8_refuse.2.1 8 = .ok (.iload_n 1, 1) := by decide +kernel
theorem dd_X8_refuse_9 : decode Y_X8_refuse.2.1 9 = .ok (.putfield 34, 3) := by decide +kernel
theorem dd_X8_refuse_12 : decode Y_X8_refuse.2.1 12 = .ok (.aload_n 0, 1) := by decide +kernel
theorem dd_X8_refuse_13 : decode Y_X8_refuse.2.1 13 = .ok (.aload_n 0, 1) := by decide +kernel
theorem dd_X8_refuse_14 : decode Y_X8_refuse.2.1 14 = .ok (.getfield 25, 3) := by decide +kernel
theorem dd_X8_refuse_17 : decode Y_X8_refuse.2.1 17 = .ok (.putfield 37, 3) := by decide +kernel
theorem dd_X8_refuse_20 : decode Y_X8_refuse.2.1 20 = .ok (.aload_n 0, 1) := by decide +kernel
theorem dd_X8_refuse_21 : decode Y_X8_refuse.2.1 21 = .ok (.sipush 259, 3) := by decide +kernel
theorem dd_X8_refuse_24 : decode Y_X8_refuse.2.1 24 = .ok (.putfield 22, 3) := by decide +kernel
theorem dd_X8_refuse_27 : decode Y_X8_refuse.2.1 27 = .ok (.return_, 1) := by decide +kernel
def F_X8_refuse (t : Nat) (a1 : Int32) (M : zM) : zO := zjo (fun  (M4 : zM) => zV M4) (fun (k1 : zM → zO) => zit ((M t 7) = 0) (zst (zup M t 7 a1) (fun M1 => zst (zup M1 t 8 (M1 t 4)) (fun M2 => zst (zup M2 t 3 259) (fun M3 => k1 M3)))) (k1 M))
set_option maxHeartbeats 1000000 in
set_option maxRecDepth 20000 in
theorem ct_X8_refuse (l : Launch) (hl : l.stackTraces = false) (G : zG) (t : Nat) (ht : zsh t = 8) (a1 : Int32) (M : zM) : zMt l G Y_X8_refuse 1 [.ref (G.2.1 + t), .int a1] M (F_X8_refuse t a1 M) := by
  refine zMt_of (by decide +kernel) (Nat.le_of_ble_eq_true rfl) ?_
  show zEv l G Y_X8_refuse 1 0 0 [(0, .ref (G.2.1 + t)), (1, .int a1)] [] M (zjo (fun  (M4 : zM) => zV M4) (fun (k1 : zM → zO) => zit ((M t 7) = 0) (zst (zup M t 7 a1) (fun M1 => zst (zup M1 t 8 (M1 t 4)) (fun M2 => zst (zup M2 t 3 259) (fun M3 => k1 M3)))) (k1 M)))
  refine ev_aload_n dd_X8_refuse_0 0 rfl ?_
  refine ev_getI gf_RX8_34 dd_X8_refuse_1 ht (by decide) ?_
  refine ev_jo (fun (k1 : zM → zO) => ∀  (M4 : zM), zEv l G Y_X8_refuse 1 0 27 [] [] M4 (k1 M4)) ?_ (fun k1 hk1 => ?_)
  · intro M4
    exact ev_vret dd_X8_refuse_27 rfl (Nat.le_of_ble_eq_true rfl) rfl
  · refine ev_if_ne 27 dd_X8_refuse_4 (by decide) ?_ ?_
    · refine ev_lv (lv' := []) [] rfl ?_
      exact hk1 _
    · refine ev_aload_n dd_X8_refuse_7 0 rfl ?_
      refine ev_iload_n dd_X8_refuse_8 1 rfl ?_
      refine ev_lv (lv' := [(0, .ref (G.2.1 + t))]) [0] rfl ?_
      refine ev_putI gw_RX8_34 dd_X8_refuse_9 ht (by decide) ?_
      refine ev_st (fun M1 => ?_)
      refine ev_aload_n dd_X8_refuse_12 0 rfl ?_
      refine ev_aload_n dd_X8_refuse_13 0 rfl ?_
      refine ev_getI gf_RX8_25 dd_X8_refuse_14 ht (by decide) ?_
      refine ev_putI gw_RX8_37 dd_X8_refuse_17 ht (by decide) ?_
      refine ev_st (fun M2 => ?_)
      refine ev_aload_n dd_X8_refuse_20 0 rfl ?_
      refine ev_lv (lv' := []) [] rfl ?_
      refine ev_sipush (v := 259) dd_X8_refuse_21 (by decide) ?_
      refine ev_putI gw_RX8_22 dd_X8_refuse_24 ht (by decide) ?_
      refine ev_st (fun M3 => ?_)
      exact hk1 _
/-! X8_kindOf -/
theorem dd_X8_kindOf_0 : decode Y_X8_kindOf.2.1 0 = .ok (.iload_n 0, 1) := by decide +kernel
theorem dd_X8_kindOf_1 : decode Y_X8_kindOf.2.1 1 = .ok (.bipush 97, 2) := by decide +kernel
theorem dd_X8_kindOf_3 : decode Y_X8_kindOf.2.1 3 = .ok (.if_icmp .lt 13, 3) := by decide +kernel
theorem dd_X8_kindOf_6 : decode Y_X8_kindOf.2.1 6 = .ok (.iload_n 0, 1) := by decide +kernel
theorem dd_X8_kindOf_7 : decode Y_X8_kindOf.2.1 7 = .ok (.bipush 122, 2) := by decide +kernel
theorem dd_X8_kindOf_9 : decode Y_X8_kindOf.2.1 9 = .ok (.if_icmp .gt 7, 3) := by decide +kernel
theorem dd_X8_kindOf_12 : decode Y_X8_kindOf.2.1 12 = .ok (.sipush 257, 3) := by decide +kernel
theorem dd_X8_kindOf_15 : decode Y_X8_kindOf.2.1 15 = .ok (.ireturn, 1) := by decide +kernel
theorem dd_X8_kindOf_16 : decode Y_X8_kindOf.2.1 16 = .ok (.iload_n 0, 1) := by decide +kernel
theorem dd_X8_kindOf_17 : decode Y_X8_kindOf.2.1 17 = .ok (.bipush 48, 2) := by decide +kernel
theorem dd_X8_kindOf_19 : decode Y_X8_kindOf.2.1 19 = .ok (.if_icmp .lt 13, 3) := by decide +kernel
theorem dd_X8_kindOf_22 : decode Y_X8_kindOf.2.1 22 = .ok (.iload_n 0, 1) := by decide +kernel
theorem dd_X8_kindOf_23 : decode Y_X8_kindOf.2.1 23 = .ok (.bipush 57, 2) := by decide +kernel
theorem dd_X8_kindOf_25 : decode Y_X8_kindOf.2.1 25 = .ok (.if_icmp .gt 7, 3) := by decide +kernel
theorem dd_X8_kindOf_28 : decode Y_X8_kindOf.2.1 28 = .ok (.sipush 258, 3) := by decide +kernel
theorem dd_X8_kindOf_31 : decode Y_X8_kindOf.2.1 31 = .ok (.ireturn, 1) := by decide +kernel
theorem dd_X8_kindOf_32 : decode Y_X8_kindOf.2.1 32 = .ok (.ldc 50, 2) := by decide +kernel
theorem dd_X8_kindOf_34 : decode Y_X8_kindOf.2.1 34 = .ok (.iload_n 0, 1) := by decide +kernel
theorem dd_X8_kindOf_35 : decode Y_X8_kindOf.2.1 35 = .ok (.i2c, 1) := by decide +kernel
theorem dd_X8_kindOf_36 : decode Y_X8_kindOf.2.1 36 = .ok (.invokevirtual 52, 3) := by decide +kernel
theorem dd_X8_kindOf_39 : decode Y_X8_kindOf.2.1 39 = .ok (.ifCond .lt 7, 3) := by decide +kernel
theorem dd_X8_kindOf_42 : decode Y_X8_kindOf.2.1 42 = .ok (.iload_n 0, 1) := by decide +kernel
theorem dd_X8_kindOf_43 : decode Y_X8_kindOf.2.1 43 = .ok (.goto 6, 3) := by decide +kernel
theorem dd_X8_kindOf_46 : decode Y_X8_kindOf.2.1 46 = .ok (.sipush 259, 3) := by decide +kernel
theorem dd_X8_kindOf_49 : decode Y_X8_kindOf.2.1 49 = .ok (.ireturn, 1) := by decide +kernel
def F_X8_kindOf (a0 : Int32) (M : zM) : zO := zjo (fun  (M1 : zM) => zjo (fun  (M2 : zM) => zbI (F_J0_indexOf_0f7a4 1 ((a0.toUInt32 % 65536).toInt32) M2) (fun r1 M3 => zjo (fun (w1 : Int32) (M4 : zM) => zI w1 M4) (fun (k3 : Int32 → zM → zO) => zit (r1 < 0) (k3 259 M3) (k3 a0 M3)))) (fun (k2 : zM → zO) => zit (a0 < 48) (k2 M1) (zit (57 < a0) (k2 M1) (zI 258 M1)))) (fun (k1 : zM → zO) => zit (a0 < 97) (k1 M) (zit (122 < a0) (k1 M) (zI 257 M)))
set_option maxHeartbeats 1000000 in
set_option maxRecDepth 20000 in
theorem ct_X8_kindOf (l : Launch) (hl : l.stackTraces = false) (G : zG) (a0 : Int32) (M : zM) : zMt l G Y_X8_kindOf 11 [.int a0] M (F_X8_kindOf a0 M) := by
  refine zMt_of (by decide +kernel) (Nat.le_of_ble_eq_true rfl) ?_
  show zEv l G Y_X8_kindOf 11 0 0 [(0, .int a0)] [] M (zjo (fun  (M1 : zM) => zjo (fun  (M2 : zM) => zbI (F_J0_indexOf_0f7a4 1 ((a0.toUInt32 % 65536).toInt32) M2) (fun r1 M3 => zjo (fun (w1 : Int32) (M4 : zM) => zI w1 M4) (fun (k3 : Int32 → zM → zO) => zit (r1 < 0) (k3 259 M3) (k3 a0 M3)))) (fun (k2 : zM → zO) => zit (a0 < 48) (k2 M1) (zit (57 < a0) (k2 M1) (zI 258 M1)))) (fun (k1 : zM → zO) => zit (a0 < 97) (k1 M) (zit (122 < a0) (k1 M) (zI 257 M))))
  refine ev_iload_n dd_X8_kindOf_0 0 rfl ?_
  refine ev_bipush (v := 97) dd_X8_kindOf_1 (by decide) ?_
  refine ev_jo (fun (k1 : zM → zO) => ∀  (M1 : zM), zEv l G Y_X8_kindOf 11 0 16 [(0, .int a0)] [] M1 (k1 M1)) ?_ (fun k1 hk1 => ?_)
  · intro M1
    refine ev_iload_n dd_X8_kindOf_16 0 rfl ?_
    refine ev_bipush (v := 48) dd_X8_kindOf_17 (by decide) ?_
    refine ev_jo (fun (k2 : zM → zO) => ∀  (M2 : zM), zEv l G Y_X8_kindOf 11 0 32 [(0, .int a0)] [] M2 (k2 M2)) ?_ (fun k2 hk2 => ?_)
    · intro M2
      refine ev_ldcs dd_X8_kindOf_32 sr_RX8_50 ?_
      refine ev_iload_n dd_X8_kindOf_34 0 rfl ?_
      refine ev_i2c dd_X8_kindOf_35 ?_
      refine ev_callTI (As := [.int ((a0.toUInt32 % 65536).toInt32)]) cl_RX8_52 (ct_J0_indexOf_0f7a4 l hl G 1 (by decide) ((a0.toUInt32 % 65536).toInt32) M2) dd_X8_kindOf_36 (by decide) (by decide) (Nat.le_of_ble_eq_true rfl) (Nat.le_of_ble_eq_true rfl) rfl rfl (fun r1 M3 => ?_)
      refine ev_jo (fun (k3 : Int32 → zM → zO) => ∀ (w1 : Int32) (M4 : zM), zEv l G Y_X8_kindOf 11 0 49 [] [.int w1] M4 (k3 w1 M4)) ?_ (fun k3 hk3 => ?_)
      · intro w1 M4
        exact ev_iret dd_X8_kindOf_49 rfl (Nat.le_of_ble_eq_true rfl) rfl
      · refine ev_if_lt 46 dd_X8_kindOf_39 (by decide) ?_ ?_
        · refine ev_lv (lv' := []) [] rfl ?_
          refine ev_sipush (v := 259) dd_X8_kindOf_46 (by decide) ?_
          exact hk3 _ _
        · refine ev_iload_n dd_X8_kindOf_42 0 rfl ?_
          refine ev_lv (lv' := []) [] rfl ?_
          refine ev_goto 49 dd_X8_kindOf_43 (by decide) ?_
          exact hk3 _ _
    · refine ev_icmp_lt 32 dd_X8_kindOf_19 (by decide) ?_ ?_
      · exact hk2 _
      · refine ev_iload_n dd_X8_kindOf_22 0 rfl ?_
        refine ev_bipush (v := 57) dd_X8_kindOf_23 (by decide) ?_
        refine ev_icmp_gt 32 dd_X8_kindOf_25 (by decide) ?_ ?_
        · exact hk2 _
        · refine ev_lv (lv' := []) [] rfl ?_
          refine ev_sipush (v := 258) dd_X8_kindOf_28 (by decide) ?_
          exact ev_iret dd_X8_kindOf_31 rfl (Nat.le_of_ble_eq_true rfl) rfl
  · refine ev_icmp_lt 16 dd_X8_kindOf_3 (by decide) ?_ ?_
    · exact hk1 _
    · refine ev_iload_n dd_X8_kindOf_6 0 rfl ?_
      refine ev_bipush (v := 122) dd_X8_kindOf_7 (by decide) ?_
      refine ev_icmp_gt 16 dd_X8_kindOf_9 (by decide) ?_ ?_
      · exact hk1 _
      · refine ev_lv (lv' := []) [] rfl ?_
        refine ev_sipush (v := 257) dd_X8_kindOf_12 (by decide) ?_
        exact ev_iret dd_X8_kindOf_15 rfl (Nat.le_of_ble_eq_true rfl) rfl
/-! X8_step -/
theorem dd_X8_step_0 : decode Y_X8_step.2.1 0 = .ok (.aload_n 0, 1) := by decide +kernel
theorem dd_X8_step_1 : decode Y_X8_step.2.1 1 = .ok (.getfield 34, 3) := by decide +kernel
theorem dd_X8_step_4 : decode Y_X8_step.2.1 4 = .ok (.ifCond .eq 4, 3) := by decide +kernel
theorem dd_X8_step_7 : decode Y_X8_step.2.1 7 = .ok (.return_, 1) := by decide +kernel
theorem dd_X8_step_8 : decode Y_X8_step.2.1 8 = .ok (.aload_n 0, 1) := by decide +kernel
theorem dd_X8_step_9 : decode Y_X8_step.2.1 9 = .ok (.aload_n 0, 1) := by decide +kernel
theorem dd_X8_step_10 : decode Y_X8_step.2.1 10 = .ok (.getfield 28, 3) := by decide +kernel
theorem dd_X8_step_13 : decode Y_X8_step.2.1 13 = .ok (.putfield 25, 3) := by decide +kernel
theorem dd_X8_step_16 : decode Y_X8_step.2.1 16 = .ok (.aload_n 0, 1) := by decide +kernel
theorem dd_X8_step_17 : decode Y_X8_step.2.1 17 = .ok (.getfield 25, 3) := by decide +kernel
theorem dd_X8_step_20 : decode Y_X8_step.2.1 20 = .ok (.aload_n 0, 1) := by decide +kernel
theorem dd_X8_step_21 : decode Y_X8_step.2.1 21 = .ok (.getfield 19, 3) := by decide +kernel
theorem dd_X8_step_24 : decode Y_X8_step.2.1 24 = .ok (.if_icmp .ge 42, 3) := by decide +kernel
theorem dd_X8_step_27 : decode Y_X8_step.2.1 27 = .ok (.aload_n 0, 1) := by decide +kernel
theorem dd_X8_step_28 : decode Y_X8_step.2.1 28 = .ok (.aload_n 0, 1) := by decide +kernel
theorem dd_X8_step_29 : decode Y_X8_step.2.1 29 = .ok (.getfield 25, 3) := by decide +kernel
theorem dd_X8_step_32 : decode Y_X8_step.2.1 32 = .ok (.invokevirtual 43, 3) := by decide +kernel
theorem dd_X8_step_35 : decode Y_X8_step.2.1 35 = .ok (.bipush 32, 2) := by decide +kernel
theorem dd_X8_step_37 : decode Y_X8_step.2.1 37 = .ok (.if_icmp .eq 16, 3) := by decide +kernel
theorem dd_X8_step_40 : decode Y_X8_step.2.1 40 = .ok (.aload_n 0, 1) := by decide +kernel
theorem dd_X8_step_41 : decode Y_X8_step.2.1 41 = .ok (.aload_n 0, 1) := by decide +kernel
theorem dd_X8_step_42 : decode Y_X8_step.2.1 42 = .ok (.getfield 25, 3) := by decide +kernel
theorem dd_X8_step_45 : decode Y_X8_step.2.1 45 = .ok (.invokevirtual 43, 3) := by decide +kernel
theorem dd_X8_step_48 : decode Y_X8_step.2.1 48 = .ok (.bipush 10, 2) := by decide +kernel
theorem dd_X8_step_50 : decode Y_X8_step.2.1 50 = .ok (.if_icmp .ne 16, 3) := by decide +kernel
theorem dd_X8_step_53 : decode Y_X8_step.2.1 53 = .ok (.aload_n 0, 1) := by decide +kernel
theorem dd_X8_step_54 : decode Y_X8_step.2.1 54 = .ok (.dup, 1) := by decide +kernel
theorem dd_X8_step_55 : decode Y_X8_step.2.1 55 = .ok (.getfield 25, 3) := by decide +kernel
theorem dd_X8_step_58 : decode Y_X8_step.2.1 58 = .ok (.iconst 1, 1) := by decide +kernel
theorem dd_X8_step_59 : decode Y_X8_step.2.1 59 = .ok (.iadd, 1) := by decide +kernel
theorem dd_X8_step_60 : decode Y_X8_step.2.1 60 = .ok (.putfield 25, 3) := by decide +kernel
theorem dd_X8_step_63 : decode Y_X8_step.2.1 63 = .ok (.goto (-47), 3) := by decide +kernel
theorem dd_X8_step_66 : decode Y_X8_step.2.1 66 = .ok (.aload_n 0, 1) := by decide +kernel
theorem dd_X8_step_67 : decode Y_X8_step.2.1 67 = .ok (.aload_n 0, 1) := by decide +kernel
theorem dd_X8_step_68 : decode Y_X8_step.2.1 68 = .ok (.getfield 25, 3) := by decide +kernel
theorem dd_X8_step_71 : decode Y_X8_step.2.1 71 = .ok (.aload_n 0, 1) := by decide +kernel
theorem dd_X8_step_72 : decode Y_X8_step.2.1 72 = .ok (.getfield 19, 3) := by decide +kernel
theorem dd_X8_step_75 : decode Y_X8_step.2.1 75 = .ok (.if_icmp .ge 17, 3) := by decide +kernel
theorem dd_X8_step_78 : decode Y_X8_step.2.1 78 = .ok (.aload_n 0, 1) := by decide +kernel
theorem dd_X8_step_79 : decode Y_X8_step.2.1 79 = .ok (.aload_n 0, 1) := by decide +kernel
theorem dd_X8_step_80 : decode Y_X8_step.2.1 80 = .ok (.getfield 25, 3) := by decide +kernel
theorem dd_X8_step_83 : decode Y_X8_step.2.1 83 = .ok (.invokevirtual 43, 3) := by decide +kernel
theorem dd_X8_step_86 : decode Y_X8_step.2.1 86 = .ok (.invokestatic 47, 3) := by decide +kernel
theorem dd_X8_step_89 : decode Y_X8_step.2.1 89 = .ok (.goto 6, 3) := by decide +kernel
theorem dd_X8_step_92 : decode Y_X8_step.2.1 92 = .ok (.sipush 256, 3) := by decide +kernel
theorem dd_X8_step_95 : decode Y_X8_step.2.1 95 = .ok (.putfield 22, 3) := by decide +kernel
theorem dd_X8_step_98 : decode Y_X8_step.2.1 98 = .ok (.aload_n 0, 1) := by decide +kernel
theorem dd_X8_step_99 : decode Y_X8_step.2.1 99 = .ok (.aload_n 0, 1) := by decide +kernel
theorem dd_X8_step_100 : decode Y_X8_step.2.1 100 = .ok (.getfield 25, 3) := by decide +kernel
theorem dd_X8_step_103 : decode Y_X8_step.2.1 103 = .ok (.aload_n 0, 1) := by decide +kernel
theorem dd_X8_step_104 : decode Y_X8_step.2.1 104 = .ok (.getfield 19, 3) := by decide +kernel
theorem dd_X8_step_107 : decode Y_X8_step.2.1 107 = .ok (.if_icmp .ge 12, 3) := by decide +kernel
theorem dd_X8_step_110 : decode Y_X8_step.2.1 110 = .ok (.aload_n 0, 1) := by decide +kernel
theorem dd_X8_step_111 : decode Y_X8_step.2.1 111 = .ok (.getfield 25, 3) := by decide +kernel
theorem dd_X8_step_114 : decode Y_X8_step.2.1 114 = .ok (.iconst 1, 1) := by decide +kernel
theorem dd_X8_step_115 : decode Y_X8_step.2.1 115 = .ok (.iadd, 1) := by decide +kernel
theorem dd_X8_step_116 : decode Y_X8_step.2.1 116 = .ok (.goto 7, 3) := by decide +kernel
theorem dd_X8_step_119 : decode Y_X8_step.2.1 119 = .ok (.aload_n 0, 1) := by decide +kernel
theorem dd_X8_step_120 : decode Y_X8_step.2.1 120 = .ok (.getfield 25, 3) := by decide +kernel
theorem dd_X8_step_123 : decode Y_X8_step.2.1 123 = .ok (.putfield 28, 3) := by decide +kernel
theorem dd_X8_step_126 : decode Y_X8_step.2.1 126 = .ok (.aload_n 0, 1) := by decide +kernel
theorem dd_X8_step_127 : decode Y_X8_step.2.1 127 = .ok (.getfield 22, 3) := by decide +kernel
theorem dd_X8_step_130 : decode Y_X8_step.2.1 130 = .ok (.sipush 257, 3) := by decide +kernel
theorem dd_X8_step_133 : decode Y_X8_step.2.1 133 = .ok (.if_icmp .eq 13, 3) := by decide +kernel
theorem dd_X8_step_136 : decode Y_X8_step.2.1 136 = .ok (.aload_n 0, 1) := by decide +kernel
theorem dd_X8_step_137 : decode Y_X8_step.2.1 137 = .ok (.getfield 22, 3) := by decide +kernel
theorem dd_X8_step_140 : decode Y_X8_step.2.1 140 = .ok (.sipush 258, 3) := by decide +kernel
theorem dd_X8_step_143 : decode Y_X8_step.2.1 143 = .ok (.if_icmp .ne 7, 3) := by decide +kernel
theorem dd_X8_step_146 : decode Y_X8_step.2.1 146 = .ok (.iconst 1, 1) := by decide +kernel
theorem dd_X8_step_147 : decode Y_X8_step.2.1 147 = .ok (.goto 4, 3) := by decide +kernel
theorem dd_X8_step_150 : decode Y_X8_step.2.1 150 = .ok (.iconst 0, 1) := by decide +kernel
theorem dd_X8_step_151 : decode Y_X8_step.2.1 151 = .ok (.istore_n 1, 1) := by decide +kernel
theorem dd_X8_step_152 : decode Y_X8_step.2.1 152 = .ok (.iload_n 1, 1) := by decide +kernel
theorem dd_X8_step_153 : decode Y_X8_step.2.1 153 = .ok (.ifCond .eq 45, 3) := by decide +kernel
theorem dd_X8_step_156 : decode Y_X8_step.2.1 156 = .ok (.aload_n 0, 1) := by decide +kernel
theorem dd_X8_step_157 : decode Y_X8_step.2.1 157 = .ok (.getfield 28, 3) := by decide +kernel
theorem dd_X8_step_160 : decode Y_X8_step.2.1 160 = .ok (.aload_n 0, 1) := by decide +kernel
theorem dd_X8_step_161 : decode Y_X8_step.2.1 161 = .ok (.getfield 19, 3) := by decide +kernel
theorem dd_X8_step_164 : decode Y_X8_step.2.1 164 = .ok (.if_icmp .ge 34, 3) := by decide +kernel
theorem dd_X8_step_167 : decode Y_X8_step.2.1 167 = .ok (.aload_n 0, 1) := by decide +kernel
theorem dd_X8_step_168 : decode Y_X8_step.2.1 168 = .ok (.aload_n 0, 1) := by decide +kernel
theorem dd_X8_step_169 : decode Y_X8_step.2.1 169 = .ok (.getfield 28, 3) := by decide +kernel
theorem dd_X8_step_172 : decode Y_X8_step.2.1 172 = .ok (.invokevirtual 43, 3) := by decide +kernel
theorem dd_X8_step_175 : decode Y_X8_step.2.1 175 = .ok (.invokestatic 47, 3) := by decide +kernel
theorem dd_X8_step_178 : decode Y_X8_step.2.1 178 = .ok (.aload_n 0, 1) := by decide +kernel
theorem dd_X8_step_179 : decode Y_X8_step.2.1 179 = .ok (.getfield 22, 3) := by decide +kernel
theorem dd_X8_step_182 : decode Y_X8_step.2.1 182 = .ok (.if_icmp .ne 16, 3) := by decide +kernel
theorem dd_X8_step_185 : decode Y_X8_step.2.1 185 = .ok (.aload_n 0, 1) := by decide +kernel
theorem dd_X8_step_186 : decode Y_X8_step.2.1 186 = .ok (.dup, 1) := by decide +kernel
theorem dd_X8_step_187 : decode Y_X8_step.2.1 187 = .ok (.getfield 28, 3) := by decide +kernel
theorem dd_X8_step_190 : decode Y_X8_step.2.1 190 = .ok (.iconst 1, 1) := by decide +kernel
theorem dd_X8_step_191 : decode Y_X8_step.2.1 191 = .ok (.iadd, 1) := by decide +kernel
theorem dd_X8_step_192 : decode Y_X8_step.2.1 192 = .ok (.putfield 28, 3) := by decide +kernel
theorem dd_X8_step_195 : decode Y_X8_step.2.1 195 = .ok (.goto (-43), 3) := by decide +kernel
theorem dd_X8_step_198 : decode Y_X8_step.2.1 198 = .ok (.aload_n 0, 1) := by decide +kernel
theorem dd_X8_step_199 : decode Y_X8_step.2.1 199 = .ok (.iconst 0, 1) := by decide +kernel
theorem dd_X8_step_200 : decode Y_X8_step.2.1 200 = .ok (.putfield 31, 3) := by decide +kernel
theorem dd_X8_step_203 : decode Y_X8_step.2.1 203 = .ok (.aload_n 0, 1) := by decide +kernel
theorem dd_X8_step_204 : decode Y_X8_step.2.1 204 = .ok (.getfield 25, 3) := by decide +kernel
theorem dd_X8_step_207 : decode Y_X8_step.2.1 207 = .ok (.istore_n 2, 1) := by decide +kernel
theorem dd_X8_step_208 : decode Y_X8_step.2.1 208 = .ok (.aload_n 0, 1) := by decide +kernel
theorem dd_X8_step_209 : decode Y_X8_step.2.1 209 = .ok (.getfield 22, 3) := by decide +kernel
theorem dd_X8_step_212 : decode Y_X8_step.2.1 212 = .ok (.sipush 258, 3) := by decide +kernel
theorem dd_X8_step_215 : decode Y_X8_step.2.1 215 = .ok (.if_icmp .ne 47, 3) := by decide +kernel
theorem dd_X8_step_218 : decode Y_X8_step.2.1 218 = .ok (.iload_n 2, 1) := by decide +kernel
theorem dd_X8_step_219 : decode Y_X8_step.2.1 219 = .ok (.aload_n 0, 1) := by decide +kernel
theorem dd_X8_step_220 : decode Y_X8_step.2.1 220 = .ok (.getfield 28, 3) := by decide +kernel
theorem dd_X8_step_223 : decode Y_X8_step.2.1 223 = .ok (.if_icmp .ge 39, 3) := by decide +kernel
theorem dd_X8_step_226 : decode Y_X8_step.2.1 226 = .ok (.iload_n 2, 1) := by decide +kernel
theorem dd_X8_step_227 : decode Y_X8_step.2.1 227 = .ok (.aload_n 0, 1) := by decide +kernel
theorem dd_X8_step_228 : decode Y_X8_step.2.1 228 = .ok (.getfield 25, 3) := by decide +kernel
theorem dd_X8_step_231 : decode Y_X8_step.2.1 231 = .ok (.iconst 4, 1) := by decide +kernel
theorem dd_X8_step_232 : decode Y_X8_step.2.1 232 = .ok (.iadd, 1) := by decide +kernel
theorem dd_X8_step_233 : decode Y_X8_step.2.1 233 = .ok (.if_icmp .ge 29, 3) := by decide +kernel
theorem dd_X8_step_236 : decode Y_X8_step.2.1 236 = .ok (.aload_n 0, 1) := by decide +kernel
theorem dd_X8_step_237 : decode Y_X8_step.2.1 237 = .ok (.bipush 10, 2) := by decide +kernel
theorem dd_X8_step_239 : decode Y_X8_step.2.1 239 = .ok (.aload_n 0, 1) := by decide +kernel
theorem dd_X8_step_240 : decode Y_X8_step.2.1 240 = .ok (.getfield 31, 3) := by decide +kernel
theorem dd_X8_step_243 : decode Y_X8_step.2.1 243 = .ok (.imul, 1) := by decide +kernel
theorem dd_X8_step_244 : decode Y_X8_step.2.1 244 = .ok (.aload_n 0, 1) := by decide +kernel
theorem dd_X8_step_245 : decode Y_X8_step.2.1 245 = .ok (.iload_n 2, 1) := by decide +kernel
theorem dd_X8_step_246 : decode Y_X8_step.2.1 246 = .ok (.invokevirtual 43, 3) := by decide +kernel
theorem dd_X8_step_249 : decode Y_X8_step.2.1 249 = .ok (.iadd, 1) := by decide +kernel
theorem dd_X8_step_250 : decode Y_X8_step.2.1 250 = .ok (.bipush 48, 2) := by decide +kernel
theorem dd_X8_step_252 : decode Y_X8_step.2.1 252 = .ok (.isub, 1) := by decide +kernel
theorem dd_X8_step_253 : decode Y_X8_step.2.1 253 = .ok (.putfield 31, 3) := by decide +kernel
theorem dd_X8_step_256 : decode Y_X8_step.2.1 256 = .ok (.iinc 2 1, 3) := by decide +kernel
theorem dd_X8_step_259 : decode Y_X8_step.2.1 259 = .ok (.goto (-51), 3) := by decide +kernel
theorem dd_X8_step_262 : decode Y_X8_step.2.1 262 = .ok (.return_, 1) := by decide +kernel
def F_X8_step_L16 (x0 : Nat) (K66 : zM → zO) : Nat → zM → zO
  | 0, _ => none
  | n + 1, M => zit ((M x0 2) ≤ (M x0 4)) (K66 M) (zbI (F_X8_at x0 (M x0 4) M) (fun r1 M2 => zjo (fun  (M4 : zM) => zst (zup M4 x0 4 ((M4 x0 4) + 1)) (fun M5 => F_X8_step_L16 x0 K66 n M5)) (fun (k1 : zM → zO) => zit (r1 = 32) (k1 M2) (zbI (F_X8_at x0 (M2 x0 4) M2) (fun r2 M3 => zit (r2 = 10) (k1 M3) (K66 M3))))))
def F_X8_step_L152 (x0 : Nat) (x1 : Int32) (K198 : zM → zO) : Nat → zM → zO
  | 0, _ => none
  | n + 1, M => zit (x1 = 0) (K198 M) (zit ((M x0 2) ≤ (M x0 5)) (K198 M) (zbI (F_X8_at x0 (M x0 5) M) (fun r5 M15 => zbI (F_X8_kindOf r5 M15) (fun r6 M16 => zit (r6 = (M16 x0 3)) (zst (zup M16 x0 5 ((M16 x0 5) + 1)) (fun M17 => F_X8_step_L152 x0 x1 K198 n M17)) (K198 M16)))))
def F_X8_step_L208 (x0 : Nat) (K262 : zM → zO) : Nat → Int32 → zM → zO
  | 0, _, _ => none
  | n + 1, x2, M => zit ((M x0 3) = 258) (zit ((M x0 5) ≤ x2) (K262 M) (zit (((M x0 4) + 4) ≤ x2) (K262 M) (zbI (F_X8_at x0 x2 M) (fun r7 M20 => zst (zup M20 x0 6 (((10 * (M x0 6)) + r7) - 48)) (fun M21 => F_X8_step_L208 x0 K262 n (x2 + 1) M21))))) (K262 M)
def F_X8_step (t : Nat) (M : zM) : zO := zit ((M t 7) = 0) (zst (zup M t 4 (M t 5)) (fun M1 => F_X8_step_L16 t (fun  (M6 : zM) => zjo (fun (w1 : Int32) (M9 : zM) => zst (zup M9 t 3 w1) (fun M10 => zjo (fun (w2 : Int32) (M11 : zM) => zst (zup M11 t 5 w2) (fun M12 => zjo (fun (w3 : Int32) (M14 : zM) => F_X8_step_L152 t w3 (fun  (M18 : zM) => zst (zup M18 t 6 0) (fun M19 => zlt (M19 t 4) (fun v1 => F_X8_step_L208 t (fun  (M22 : zM) => zV M22) zN v1 M19))) zN M14) (fun (k4 : Int32 → zM → zO) => zjo (fun  (M13 : zM) => k4 1 M13) (fun (k5 : zM → zO) => zit ((M12 t 3) = 257) (k5 M12) (zit ((M12 t 3) = 258) (k5 M12) (k4 0 M12)))))) (fun (k3 : Int32 → zM → zO) => zit ((M10 t 2) ≤ (M10 t 4)) (k3 (M10 t 4) M10) (k3 ((M10 t 4) + 1) M10)))) (fun (k2 : Int32 → zM → zO) => zit ((M6 t 2) ≤ (M6 t 4)) (k2 256 M6) (zbI (F_X8_at t (M6 t 4) M6) (fun r3 M7 => zbI (F_X8_kindOf r3 M7) (fun r4 M8 => k2 r4 M8))))) zN M1)) (zV M)
set_option maxHeartbeats 1000000 in
set_option maxRecDepth 20000 in
theorem ct_X8_step_L16 (l : Launch) (hl : l.stackTraces = false) (G : zG) (x0 : Nat) (hx0 : zsh x0 = 8) (K66 : zM → zO) (hK66 : ∀  (M : zM), zEv l G Y_X8_step 12 0 66 [(0, .ref (G.2.1 + x0))] [] M (K66 M)) : ∀ (n : Nat)  (M : zM), zEv l G Y_X8_step 12 0 16 [(0, .ref (G.2.1 + x0))] [] M (F_X8_step_L16 x0 K66 n M) := by
  intro n
  induction n with
  | zero => intro M; exact ev_none
  | succ n ih =>
    intro M
    show zEv l G Y_X8_step 12 0 16 [(0, .ref (G.2.1 + x0))] [] M (zit ((M x0 2) ≤ (M x0 4)) (K66 M) (zbI (F_X8_at x0 (M x0 4) M) (fun r1 M2 => zjo (fun  (M4 : zM) => zst (zup M4 x0 4 ((M4 x0 4) + 1)) (fun M5 => F_X8_step_L16 x0 K66 n M5)) (fun (k1 : zM → zO) => zit (r1 = 32) (k1 M2) (zbI (F_X8_at x0 (M2 x0 4) M2) (fun r2 M3 => zit (r2 = 10) (k1 M3) (K66 M3)))))))
    refine ev_aload_n dd_X8_step_16 0 rfl ?_
    refine ev_getI gf_RX8_25 dd_X8_step_17 hx0 (by decide) ?_
    refine ev_aload_n dd_X8_step_20 0 rfl ?_
    refine ev_getI gf_RX8_19 dd_X8_step_21 hx0 (by decide) ?_
    refine ev_icmp_ge 66 dd_X8_step_24 (by decide) ?_ ?_
    · exact hK66 _
    · refine ev_aload_n dd_X8_step_27 0 rfl ?_
      refine ev_aload_n dd_X8_step_28 0 rfl ?_
      refine ev_getI gf_RX8_25 dd_X8_step_29 hx0 (by decide) ?_
      refine ev_callVI (As := [.int (M x0 4)]) cl_RX8_43 (ct_X8_at l hl G x0 hx0 (M x0 4) M) dd_X8_step_32 hx0 (by decide) (Nat.le_of_ble_eq_true rfl) (Nat.le_of_ble_eq_true rfl) rfl rfl (fun r1 M2 => ?_)
      refine ev_bipush (v := 32) dd_X8_step_35 (by decide) ?_
      refine ev_jo (fun (k1 : zM → zO) => ∀  (M4 : zM), zEv l G Y_X8_step 12 0 53 [(0, .ref (G.2.1 + x0))] [] M4 (k1 M4)) ?_ (fun k1 hk1 => ?_)
      · intro M4
        refine ev_aload_n dd_X8_step_53 0 rfl ?_
        refine ev_dup dd_X8_step_54 rfl ?_
        refine ev_getI gf_RX8_25 dd_X8_step_55 hx0 (by decide) ?_
        refine ev_iconst (v := 1) dd_X8_step_58 (by decide) ?_
        refine ev_iadd dd_X8_step_59 ?_
        refine ev_putI gw_RX8_25 dd_X8_step_60 hx0 (by decide) ?_
        refine ev_st (fun M5 => ?_)
        refine ev_goto 16 dd_X8_step_63 (by decide) ?_
        exact ih _
      · refine ev_icmp_eq 53 dd_X8_step_37 (by decide) ?_ ?_
        · exact hk1 _
        · refine ev_aload_n dd_X8_step_40 0 rfl ?_
          refine ev_aload_n dd_X8_step_41 0 rfl ?_
          refine ev_getI gf_RX8_25 dd_X8_step_42 hx0 (by decide) ?_
          refine ev_callVI (As := [.int (M2 x0 4)]) cl_RX8_43 (ct_X8_at l hl G x0 hx0 (M2 x0 4) M2) dd_X8_step_45 hx0 (by decide) (Nat.le_of_ble_eq_true rfl) (Nat.le_of_ble_eq_true rfl) rfl rfl (fun r2 M3 => ?_)
          refine ev_bipush (v := 10) dd_X8_step_48 (by decide) ?_
          refine ev_icmp_ne 66 dd_X8_step_50 (by decide) ?_ ?_
          · exact hK66 _
          · exact hk1 _
set_option maxHeartbeats 1000000 in
set_option maxRecDepth 20000 in
theorem ct_X8_step_L152 (l : Launch) (hl : l.stackTraces = false) (G : zG) (x0 : Nat) (hx0 : zsh x0 = 8) (x1 : Int32) (K198 : zM → zO) (hK198 : ∀  (M : zM), zEv l G Y_X8_step 12 0 198 [(0, .ref (G.2.1 + x0))] [] M (K198 M)) : ∀ (n : Nat)  (M : zM), zEv l G Y_X8_step 12 0 152 [(0, .ref (G.2.1 + x0)), (1, .int x1)] [] M (F_X8_step_L152 x0 x1 K198 n M) := by
  intro n
  induction n with
  | zero => intro M; exact ev_none
  | succ n ih =>
    intro M
    show zEv l G Y_X8_step 12 0 152 [(0, .ref (G.2.1 + x0)), (1, .int x1)] [] M (zit (x1 = 0) (K198 M) (zit ((M x0 2) ≤ (M x0 5)) (K198 M) (zbI (F_X8_at x0 (M x0 5) M) (fun r5 M15 => zbI (F_X8_kindOf r5 M15) (fun r6 M16 => zit (r6 = (M16 x0 3)) (zst (zup M16 x0 5 ((M16 x0 5) + 1)) (fun M17 => F_X8_step_L152 x0 x1 K198 n M17)) (K198 M16))))))
    refine ev_iload_n dd_X8_step_152 1 rfl ?_
    refine ev_if_eq 198 dd_X8_step_153 (by decide) ?_ ?_
    · refine ev_lv (lv' := [(0, .ref (G.2.1 + x0))]) [0] rfl ?_
      exact hK198 _
    · refine ev_aload_n dd_X8_step_156 0 rfl ?_
      refine ev_getI gf_RX8_28 dd_X8_step_157 hx0 (by decide) ?_
      refine ev_aload_n dd_X8_step_160 0 rfl ?_
      refine ev_getI gf_RX8_19 dd_X8_step_161 hx0 (by decide) ?_
      refine ev_icmp_ge 198 dd_X8_step_164 (by decide) ?_ ?_
      · refine ev_lv (lv' := [(0, .ref (G.2.1 + x0))]) [0] rfl ?_
        exact hK198 _
      · refine ev_aload_n dd_X8_step_167 0 rfl ?_
        refine ev_aload_n dd_X8_step_168 0 rfl ?_
        refine ev_getI gf_RX8_28 dd_X8_step_169 hx0 (by decide) ?_
        refine ev_callVI (As := [.int (M x0 5)]) cl_RX8_43 (ct_X8_at l hl G x0 hx0 (M x0 5) M) dd_X8_step_172 hx0 (by decide) (Nat.le_of_ble_eq_true rfl) (Nat.le_of_ble_eq_true rfl) rfl rfl (fun r5 M15 => ?_)
        refine ev_callSI (As := [.int r5]) cl_RX8_47 (ct_X8_kindOf l hl G r5 M15) dd_X8_step_175 (by decide) (Nat.le_of_ble_eq_true rfl) (Nat.le_of_ble_eq_true rfl) rfl rfl (fun r6 M16 => ?_)
        refine ev_aload_n dd_X8_step_178 0 rfl ?_
        refine ev_getI gf_RX8_22 dd_X8_step_179 hx0 (by decide) ?_
        refine ev_icmp_ne 198 dd_X8_step_182 (by decide) ?_ ?_
        · refine ev_lv (lv' := [(0, .ref (G.2.1 + x0))]) [0] rfl ?_
          exact hK198 _
        · refine ev_aload_n dd_X8_step_185 0 rfl ?_
          refine ev_dup dd_X8_step_186 rfl ?_
          refine ev_getI gf_RX8_28 dd_X8_step_187 hx0 (by decide) ?_
          refine ev_iconst (v := 1) dd_X8_step_190 (by decide) ?_
          refine ev_iadd dd_X8_step_191 ?_
          refine ev_putI gw_RX8_28 dd_X8_step_192 hx0 (by decide) ?_
          refine ev_st (fun M17 => ?_)
          refine ev_goto 152 dd_X8_step_195 (by decide) ?_
          exact ih _
set_option maxHeartbeats 1000000 in
set_option maxRecDepth 20000 in
theorem ct_X8_step_L208 (l : Launch) (hl : l.stackTraces = false) (G : zG) (x0 : Nat) (hx0 : zsh x0 = 8) (K262 : zM → zO) (hK262 : ∀  (M : zM), zEv l G Y_X8_step 12 0 262 [] [] M (K262 M)) : ∀ (n : Nat) (x2 : Int32) (M : zM), zEv l G Y_X8_step 12 0 208 [(0, .ref (G.2.1 + x0)), (2, .int x2)] [] M (F_X8_step_L208 x0 K262 n x2 M) := by
  intro n
  induction n with
  | zero => intro x2 M; exact ev_none
  | succ n ih =>
    intro x2 M
    show zEv l G Y_X8_step 12 0 208 [(0, .ref (G.2.1 + x0)), (2, .int x2)] [] M (zit ((M x0 3) = 258) (zit ((M x0 5) ≤ x2) (K262 M) (zit (((M x0 4) + 4) ≤ x2) (K262 M) (zbI (F_X8_at x0 x2 M) (fun r7 M20 => zst (zup M20 x0 6 (((10 * (M x0 6)) + r7) - 48)) (fun M21 => F_X8_step_L208 x0 K262 n (x2 + 1) M21))))) (K262 M))
    refine ev_aload_n dd_X8_step_208 0 rfl ?_
    refine ev_getI gf_RX8_22 dd_X8_step_209 hx0 (by decide) ?_
    refine ev_sipush (v := 258) dd_X8_step_212 (by decide) ?_
    refine ev_icmp_ne 262 dd_X8_step_215 (by decide) ?_ ?_
    · refine ev_lv (lv' := []) [] rfl ?_
      exact hK262 _
    · refine ev_iload_n dd_X8_step_218 1 rfl ?_
      refine ev_aload_n dd_X8_step_219 0 rfl ?_
      refine ev_getI gf_RX8_28 dd_X8_step_220 hx0 (by decide) ?_
      refine ev_icmp_ge 262 dd_X8_step_223 (by decide) ?_ ?_
      · refine ev_lv (lv' := []) [] rfl ?_
        exact hK262 _
      · refine ev_iload_n dd_X8_step_226 1 rfl ?_
        refine ev_aload_n dd_X8_step_227 0 rfl ?_
        refine ev_getI gf_RX8_25 dd_X8_step_228 hx0 (by decide) ?_
        refine ev_iconst (v := 4) dd_X8_step_231 (by decide) ?_
        refine ev_iadd dd_X8_step_232 ?_
        refine ev_icmp_ge 262 dd_X8_step_233 (by decide) ?_ ?_
        · refine ev_lv (lv' := []) [] rfl ?_
          exact hK262 _
        · refine ev_aload_n dd_X8_step_236 0 rfl ?_
          refine ev_bipush (v := 10) dd_X8_step_237 (by decide) ?_
          refine ev_aload_n dd_X8_step_239 0 rfl ?_
          refine ev_getI gf_RX8_31 dd_X8_step_240 hx0 (by decide) ?_
          refine ev_imul dd_X8_step_243 ?_
          refine ev_aload_n dd_X8_step_244 0 rfl ?_
          refine ev_iload_n dd_X8_step_245 1 rfl ?_
          refine ev_callVI (As := [.int x2]) cl_RX8_43 (ct_X8_at l hl G x0 hx0 x2 M) dd_X8_step_246 hx0 (by decide) (Nat.le_of_ble_eq_true rfl) (Nat.le_of_ble_eq_true rfl) rfl rfl (fun r7 M20 => ?_)
          refine ev_iadd dd_X8_step_249 ?_
          refine ev_bipush (v := 48) dd_X8_step_250 (by decide) ?_
          refine ev_isub dd_X8_step_252 ?_
          refine ev_putI gw_RX8_31 dd_X8_step_253 hx0 (by decide) ?_
          refine ev_st (fun M21 => ?_)
          refine ev_iinc (j := 1) (v := 1) (lv' := [(0, .ref (G.2.1 + x0)), (2, .int (x2 + 1))]) [1, 0] dd_X8_step_256 rfl (by decide) (by decide) rfl ?_
          refine ev_goto 208 dd_X8_step_259 (by decide) ?_
          exact ih _ _
set_option maxHeartbeats 1000000 in
set_option maxRecDepth 20000 in
theorem ct_X8_step (l : Launch) (hl : l.stackTraces = false) (G : zG) (t : Nat) (ht : zsh t = 8) (M : zM) : zMt l G Y_X8_step 12 [.ref (G.2.1 + t)] M (F_X8_step t M) := by
  refine zMt_of (by decide +kernel) (Nat.le_of_ble_eq_true rfl) ?_
  show zEv l G Y_X8_step 12 0 0 [(0, .ref (G.2.1 + t))] [] M (zit ((M t 7) = 0) (zst (zup M t 4 (M t 5)) (fun M1 => F_X8_step_L16 t (fun  (M6 : zM) => zjo (fun (w1 : Int32) (M9 : zM) => zst (zup M9 t 3 w1) (fun M10 => zjo (fun (w2 : Int32) (M11 : zM) => zst (zup M11 t 5 w2) (fun M12 => zjo (fun (w3 : Int32) (M14 : zM) => F_X8_step_L152 t w3 (fun  (M18 : zM) => zst (zup M18 t 6 0) (fun M19 => zlt (M19 t 4) (fun v1 => F_X8_step_L208 t (fun  (M22 : zM) => zV M22) zN v1 M19))) zN M14) (fun (k4 : Int32 → zM → zO) => zjo (fun  (M13 : zM) => k4 1 M13) (fun (k5 : zM → zO) => zit ((M12 t 3) = 257) (k5 M12) (zit ((M12 t 3) = 258) (k5 M12) (k4 0 M12)))))) (fun (k3 : Int32 → zM → zO) => zit ((M10 t 2) ≤ (M10 t 4)) (k3 (M10 t 4) M10) (k3 ((M10 t 4) + 1) M10)))) (fun (k2 : Int32 → zM → zO) => zit ((M6 t 2) ≤ (M6 t 4)) (k2 256 M6) (zbI (F_X8_at t (M6 t 4) M6) (fun r3 M7 => zbI (F_X8_kindOf r3 M7) (fun r4 M8 => k2 r4 M8))))) zN M1)) (zV M))
  refine ev_aload_n dd_X8_step_0 0 rfl ?_
  refine ev_getI gf_RX8_34 dd_X8_step_1 ht (by decide) ?_
  refine ev_if_eq 8 dd_X8_step_4 (by decide) ?_ ?_
  · refine ev_aload_n dd_X8_step_8 0 rfl ?_
    refine ev_aload_n dd_X8_step_9 0 rfl ?_
    refine ev_getI gf_RX8_28 dd_X8_step_10 ht (by decide) ?_
    refine ev_putI gw_RX8_25 dd_X8_step_13 ht (by decide) ?_
    refine ev_st (fun M1 => ?_)
    refine ct_X8_step_L16 l hl G t ht _ (fun M6 => ?_) zN _
    refine ev_aload_n dd_X8_step_66 0 rfl ?_
    refine ev_aload_n dd_X8_step_67 0 rfl ?_
    refine ev_getI gf_RX8_25 dd_X8_step_68 ht (by decide) ?_
    refine ev_aload_n dd_X8_step_71 0 rfl ?_
    refine ev_getI gf_RX8_19 dd_X8_step_72 ht (by decide) ?_
    refine ev_jo (fun (k2 : Int32 → zM → zO) => ∀ (w1 : Int32) (M9 : zM), zEv l G Y_X8_step 12 0 95 [(0, .ref (G.2.1 + t))] [.int w1, .ref (G.2.1 + t)] M9 (k2 w1 M9)) ?_ (fun k2 hk2 => ?_)
    · intro w1 M9
      refine ev_putI gw_RX8_22 dd_X8_step_95 ht (by decide) ?_
      refine ev_st (fun M10 => ?_)
      refine ev_aload_n dd_X8_step_98 0 rfl ?_
      refine ev_aload_n dd_X8_step_99 0 rfl ?_
      refine ev_getI gf_RX8_25 dd_X8_step_100 ht (by decide) ?_
      refine ev_aload_n dd_X8_step_103 0 rfl ?_
      refine ev_getI gf_RX8_19 dd_X8_step_104 ht (by decide) ?_
      refine ev_jo (fun (k3 : Int32 → zM → zO) => ∀ (w2 : Int32) (M11 : zM), zEv l G Y_X8_step 12 0 123 [(0, .ref (G.2.1 + t))] [.int w2, .ref (G.2.1 + t)] M11 (k3 w2 M11)) ?_ (fun k3 hk3 => ?_)
      · intro w2 M11
        refine ev_putI gw_RX8_28 dd_X8_step_123 ht (by decide) ?_
        refine ev_st (fun M12 => ?_)
        refine ev_aload_n dd_X8_step_126 0 rfl ?_
        refine ev_getI gf_RX8_22 dd_X8_step_127 ht (by decide) ?_
        refine ev_sipush (v := 257) dd_X8_step_130 (by decide) ?_
        refine ev_jo (fun (k4 : Int32 → zM → zO) => ∀ (w3 : Int32) (M14 : zM), zEv l G Y_X8_step 12 0 151 [(0, .ref (G.2.1 + t))] [.int w3] M14 (k4 w3 M14)) ?_ (fun k4 hk4 => ?_)
        · intro w3 M14
          refine ev_istore_n (i := 1) (lv' := [(0, .ref (G.2.1 + t)), (1, .int w3)]) [1, 0] dd_X8_step_151 rfl (by decide) rfl ?_
          refine ct_X8_step_L152 l hl G t ht w3 _ (fun M18 => ?_) zN _
          refine ev_aload_n dd_X8_step_198 0 rfl ?_
          refine ev_iconst (v := 0) dd_X8_step_199 (by decide) ?_
          refine ev_putI gw_RX8_31 dd_X8_step_200 ht (by decide) ?_
          refine ev_st (fun M19 => ?_)
          refine ev_aload_n dd_X8_step_203 0 rfl ?_
          refine ev_getI gf_RX8_25 dd_X8_step_204 ht (by decide) ?_
          refine ev_topi (fun v1 => ?_)
          refine ev_istore_n (i := 2) (lv' := [(0, .ref (G.2.1 + t)), (2, .int v1)]) [1, 0] dd_X8_step_207 rfl (by decide) rfl ?_
          refine ct_X8_step_L208 l hl G t ht _ (fun M22 => ?_) zN _ _
          exact ev_vret dd_X8_step_262 rfl (Nat.le_of_ble_eq_true rfl) rfl
        · refine ev_jo (fun (k5 : zM → zO) => ∀  (M13 : zM), zEv l G Y_X8_step 12 0 146 [(0, .ref (G.2.1 + t))] [] M13 (k5 M13)) ?_ (fun k5 hk5 => ?_)
          · intro M13
            refine ev_iconst (v := 1) dd_X8_step_146 (by decide) ?_
            refine ev_goto 151 dd_X8_step_147 (by decide) ?_
            exact hk4 _ _
          · refine ev_icmp_eq 146 dd_X8_step_133 (by decide) ?_ ?_
            · exact hk5 _
            · refine ev_aload_n dd_X8_step_136 0 rfl ?_
              refine ev_getI gf_RX8_22 dd_X8_step_137 ht (by decide) ?_
              refine ev_sipush (v := 258) dd_X8_step_140 (by decide) ?_
              refine ev_icmp_ne 150 dd_X8_step_143 (by decide) ?_ ?_
              · refine ev_iconst (v := 0) dd_X8_step_150 (by decide) ?_
                exact hk4 _ _
              · exact hk5 _
      · refine ev_icmp_ge 119 dd_X8_step_107 (by decide) ?_ ?_
        · refine ev_aload_n dd_X8_step_119 0 rfl ?_
          refine ev_getI gf_RX8_25 dd_X8_step_120 ht (by decide) ?_
          exact hk3 _ _
        · refine ev_aload_n dd_X8_step_110 0 rfl ?_
          refine ev_getI gf_RX8_25 dd_X8_step_111 ht (by decide) ?_
          refine ev_iconst (v := 1) dd_X8_step_114 (by decide) ?_
          refine ev_iadd dd_X8_step_115 ?_
          refine ev_goto 123 dd_X8_step_116 (by decide) ?_
          exact hk3 _ _
    · refine ev_icmp_ge 92 dd_X8_step_75 (by decide) ?_ ?_
      · refine ev_sipush (v := 256) dd_X8_step_92 (by decide) ?_
        exact hk2 _ _
      · refine ev_aload_n dd_X8_step_78 0 rfl ?_
        refine ev_aload_n dd_X8_step_79 0 rfl ?_
        refine ev_getI gf_RX8_25 dd_X8_step_80 ht (by decide) ?_
        refine ev_callVI (As := [.int (M6 t 4)]) cl_RX8_43 (ct_X8_at l hl G t ht (M6 t 4) M6) dd_X8_step_83 ht (by decide) (Nat.le_of_ble_eq_true rfl) (Nat.le_of_ble_eq_true rfl) rfl rfl (fun r3 M7 => ?_)
        refine ev_callSI (As := [.int r3]) cl_RX8_47 (ct_X8_kindOf l hl G r3 M7) dd_X8_step_86 (by decide) (Nat.le_of_ble_eq_true rfl) (Nat.le_of_ble_eq_true rfl) rfl rfl (fun r4 M8 => ?_)
        refine ev_goto 95 dd_X8_step_89 (by decide) ?_
        exact hk2 _ _
  · refine ev_lv (lv' := []) [] rfl ?_
    exact ev_vret dd_X8_step_7 rfl (Nat.le_of_ble_eq_true rfl) rfl
/-! X8_standsNumber -/
theorem dd_X8_standsNumber_0 : decode Y_X8_standsNumber.2.1 0 = .ok (.aload_n 0, 1) := by decide +kernel
theorem dd_X8_standsNumber_1 : decode Y_X8_standsNumber.2.1 1 = .ok (.getfield 22, 3) := by decide +kernel
theorem dd_X8_standsNumber_4 : decode Y_X8_standsNumber.2.1 4 = .ok (.sipush 258, 3) := by decide +kernel
theorem dd_X8_standsNumber_7 : decode Y_X8_standsNumber.2.1 7 = .ok (.if_icmp .eq 11, 3) := by decide +kernel
theorem dd_X8_standsNumber_10 : decode Y_X8_standsNumber.2.1 10 = .ok (.aload_n 0, 1) := by decide +kernel
theorem dd_X8_standsNumber_11 : decode Y_X8_standsNumber.2.1 11 = .ok (.iconst 1, 1) := by decide +kernel
theorem dd_X8_standsNumber_12 : decode Y_X8_standsNumber.2.1 12 = .ok (.invokevirtual 67, 3) := by decide +kernel
theorem dd_X8_standsNumber_15 : decode Y_X8_standsNumber.2.1 15 = .ok (.goto 32, 3) := by decide +kernel
theorem dd_X8_standsNumber_18 : decode Y_X8_standsNumber.2.1 18 = .ok (.aload_n 0, 1) := by decide +kernel
theorem dd_X8_standsNumber_19 : decode Y_X8_standsNumber.2.1 19 = .ok (.invokevirtual 57, 3) := by decide +kernel
theorem dd_X8_standsNumber_22 : decode Y_X8_standsNumber.2.1 22 = .ok (.iconst 4, 1) := by decide +kernel
theorem dd_X8_standsNumber_23 : decode Y_X8_standsNumber.2.1 23 = .ok (.if_icmp .gt 19, 3) := by decide +kernel
theorem dd_X8_standsNumber_26 : decode Y_X8_standsNumber.2.1 26 = .ok (.aload_n 0, 1) := by decide +kernel
theorem dd_X8_standsNumber_27 : decode Y_X8_standsNumber.2.1 27 = .ok (.getfield 31, 3) := by decide +kernel
theorem dd_X8_standsNumber_30 : decode Y_X8_standsNumber.2.1 30 = .ok (.iload_n 1, 1) := by decide +kernel
theorem dd_X8_standsNumber_31 : decode Y_X8_standsNumber.2.1 31 = .ok (.if_icmp .lt 11, 3) := by decide +kernel
theorem dd_X8_standsNumber_34 : decode Y_X8_standsNumber.2.1 34 = .ok (.aload_n 0, 1) := by decide +kernel
theorem dd_X8_standsNumber_35 : decode Y_X8_standsNumber.2.1 35 = .ok (.getfield 31, 3) := by decide +kernel
theorem dd_X8_standsNumber_38 : decode Y_X8_standsNumber.2.1 38 = .ok (.iload_n 2, 1) := by decide +kernel
theorem dd_X8_standsNumber_39 : decode Y_X8_standsNumber.2.1 39 = .ok (.if_icmp .le 8, 3) := by decide +kernel
theorem dd_X8_standsNumber_42 : decode Y_X8_standsNumber.2.1 42 = .ok (.aload_n 0, 1) := by decide +kernel
theorem dd_X8_standsNumber_43 : decode Y_X8_standsNumber.2.1 43 = .ok (.iconst 2, 1) := by decide +kernel
theorem dd_X8_standsNumber_44 : decode Y_X8_standsNumber.2.1 44 = .ok (.invokevirtual 67, 3) := by decide +kernel
theorem dd_X8_standsNumber_47 : decode Y_X8_standsNumber.2.1 47 = .ok (.aload_n 0, 1) := by decide +kernel
theorem dd_X8_standsNumber_48 : decode Y_X8_standsNumber.2.1 48 = .ok (.getfield 34, 3) := by decide +kernel
theorem dd_X8_standsNumber_51 : decode Y_X8_standsNumber.2.1 51 = .ok (.ifCond .ne 7, 3) := by decide +kernel
theorem dd_X8_standsNumber_54 : decode Y_X8_standsNumber.2.1 54 = .ok (.iconst 1, 1) := by decide +kernel
theorem dd_X8_standsNumber_55 : decode Y_X8_standsNumber.2.1 55 = .ok (.goto 4, 3) := by decide +kernel
theorem dd_X8_standsNumber_58 : decode Y_X8_standsNumber.2.1 58 = .ok (.iconst 0, 1) := by decide +kernel
theorem dd_X8_standsNumber_59 : decode Y_X8_standsNumber.2.1 59 = .ok (.ireturn, 1) := by decide +kernel
def F_X8_standsNumber (t : Nat) (a1 : Int32) (a2 : Int32) (M : zM) : zO := zjo (fun  (M5 : zM) => zjo (fun (w1 : Int32) (M6 : zM) => zck (zbo w1) (zI w1 M6)) (fun (k3 : Int32 → zM → zO) => zit ((M5 t 7) = 0) (k3 1 M5) (k3 0 M5))) (fun (k1 : zM → zO) => zit ((M t 3) = 258) (zbI (F_X8_size t M) (fun r1 M1 => zjo (fun  (M2 : zM) => zbV (F_X8_refuse t 2 M2) (fun M3 => k1 M3)) (fun (k2 : zM → zO) => zit (4 < r1) (k2 M1) (zit ((M1 t 6) < a1) (k2 M1) (zit ((M1 t 6) ≤ a2) (k1 M1) (k2 M1)))))) (zbV (F_X8_refuse t 1 M) (fun M4 => k1 M4)))
set_option maxHeartbeats 1000000 in
set_option maxRecDepth 20000 in
theorem ct_X8_standsNumber (l : Launch) (hl : l.stackTraces = false) (G : zG) (t : Nat) (ht : zsh t = 8) (a1 : Int32) (a2 : Int32) (M : zM) : zMt l G Y_X8_standsNumber 2 [.ref (G.2.1 + t), .int a1, .int a2] M (F_X8_standsNumber t a1 a2 M) := by
  refine zMt_of (by decide +kernel) (Nat.le_of_ble_eq_true rfl) ?_
  show zEv l G Y_X8_standsNumber 2 0 0 [(0, .ref (G.2.1 + t)), (1, .int a1), (2, .int a2)] [] M (zjo (fun  (M5 : zM) => zjo (fun (w1 : Int32) (M6 : zM) => zck (zbo w1) (zI w1 M6)) (fun (k3 : Int32 → zM → zO) => zit ((M5 t 7) = 0) (k3 1 M5) (k3 0 M5))) (fun (k1 : zM → zO) => zit ((M t 3) = 258) (zbI (F_X8_size t M) (fun r1 M1 => zjo (fun  (M2 : zM) => zbV (F_X8_refuse t 2 M2) (fun M3 => k1 M3)) (fun (k2 : zM → zO) => zit (4 < r1) (k2 M1) (zit ((M1 t 6) < a1) (k2 M1) (zit ((M1 t 6) ≤ a2) (k1 M1) (k2 M1)))))) (zbV (F_X8_refuse t 1 M) (fun M4 => k1 M4))))
  refine ev_aload_n dd_X8_standsNumber_0 0 rfl ?_
  refine ev_getI gf_RX8_22 dd_X8_standsNumber_1 ht (by decide) ?_
  refine ev_sipush (v := 258) dd_X8_standsNumber_4 (by decide) ?_
  refine ev_jo (fun (k1 : zM → zO) => ∀  (M5 : zM), zEv l G Y_X8_standsNumber 2 0 47 [(0, .ref (G.2.1 + t))] [] M5 (k1 M5)) ?_ (fun k1 hk1 => ?_)
  · intro M5
    refine ev_aload_n dd_X8_standsNumber_47 0 rfl ?_
    refine ev_lv (lv' := []) [] rfl ?_
    refine ev_getI gf_RX8_34 dd_X8_standsNumber_48 ht (by decide) ?_
    refine ev_jo (fun (k3 : Int32 → zM → zO) => ∀ (w1 : Int32) (M6 : zM), zEv l G Y_X8_standsNumber 2 0 59 [] [.int w1] M6 (k3 w1 M6)) ?_ (fun k3 hk3 => ?_)
    · intro w1 M6
      exact ev_zret dd_X8_standsNumber_59 rfl (Nat.le_of_ble_eq_true rfl) rfl
    · refine ev_if_ne 58 dd_X8_standsNumber_51 (by decide) ?_ ?_
      · refine ev_iconst (v := 0) dd_X8_standsNumber_58 (by decide) ?_
        exact hk3 _ _
      · refine ev_iconst (v := 1) dd_X8_standsNumber_54 (by decide) ?_
        refine ev_goto 59 dd_X8_standsNumber_55 (by decide) ?_
        exact hk3 _ _
  · refine ev_icmp_eq 18 dd_X8_standsNumber_7 (by decide) ?_ ?_
    · refine ev_aload_n dd_X8_standsNumber_18 0 rfl ?_
      refine ev_callVI (As := []) cl_RX8_57 (ct_X8_size l hl G t ht M) dd_X8_standsNumber_19 ht (by decide) (Nat.le_of_ble_eq_true rfl) (Nat.le_of_ble_eq_true rfl) rfl rfl (fun r1 M1 => ?_)
      refine ev_iconst (v := 4) dd_X8_standsNumber_22 (by decide) ?_
      refine ev_jo (fun (k2 : zM → zO) => ∀  (M2 : zM), zEv l G Y_X8_standsNumber 2 0 42 [(0, .ref (G.2.1 + t))] [] M2 (k2 M2)) ?_ (fun k2 hk2 => ?_)
      · intro M2
        refine ev_aload_n dd_X8_standsNumber_42 0 rfl ?_
        refine ev_iconst (v := 2) dd_X8_standsNumber_43 (by decide) ?_
        refine ev_callVV (As := [.int 2]) cl_RX8_67 (ct_X8_refuse l hl G t ht 2 M2) dd_X8_standsNumber_44 ht (by decide) (Nat.le_of_ble_eq_true rfl) (Nat.le_of_ble_eq_true rfl) rfl rfl (fun M3 => ?_)
        exact hk1 _
      · refine ev_icmp_gt 42 dd_X8_standsNumber_23 (by decide) ?_ ?_
        · refine ev_lv (lv' := [(0, .ref (G.2.1 + t))]) [0] rfl ?_
          exact hk2 _
        · refine ev_aload_n dd_X8_standsNumber_26 0 rfl ?_
          refine ev_getI gf_RX8_31 dd_X8_standsNumber_27 ht (by decide) ?_
          refine ev_iload_n dd_X8_standsNumber_30 1 rfl ?_
          refine ev_lv (lv' := [(0, .ref (G.2.1 + t)), (2, .int a2)]) [0, 2] rfl ?_
          refine ev_icmp_lt 42 dd_X8_standsNumber_31 (by decide) ?_ ?_
          · refine ev_lv (lv' := [(0, .ref (G.2.1 + t))]) [0] rfl ?_
            exact hk2 _
          · refine ev_aload_n dd_X8_standsNumber_34 0 rfl ?_
            refine ev_getI gf_RX8_31 dd_X8_standsNumber_35 ht (by decide) ?_
            refine ev_iload_n dd_X8_standsNumber_38 1 rfl ?_
            refine ev_lv (lv' := [(0, .ref (G.2.1 + t))]) [0] rfl ?_
            refine ev_icmp_le 47 dd_X8_standsNumber_39 (by decide) ?_ ?_
            · exact hk1 _
            · exact hk2 _
    · refine ev_lv (lv' := [(0, .ref (G.2.1 + t))]) [0] rfl ?_
      refine ev_aload_n dd_X8_standsNumber_10 0 rfl ?_
      refine ev_iconst (v := 1) dd_X8_standsNumber_11 (by decide) ?_
      refine ev_callVV (As := [.int 1]) cl_RX8_67 (ct_X8_refuse l hl G t ht 1 M) dd_X8_standsNumber_12 ht (by decide) (Nat.le_of_ble_eq_true rfl) (Nat.le_of_ble_eq_true rfl) rfl rfl (fun M4 => ?_)
      refine ev_goto 47 dd_X8_standsNumber_15 (by decide) ?_
      exact hk1 _
/-! X8_takeNumber -/
theorem dd_X8_takeNumber_0 : decode Y_X8_takeNumber.2.1 0 = .ok (.aload_n 0, 1) := by decide +kernel
theorem dd_X8_takeNumber_1 : decode Y_X8_takeNumber.2.1 1 = .ok (.iload_n 1, 1) := by decide +kernel
theorem dd_X8_takeNumber_2 : decode Y_X8_takeNumber.2.1 2 = .ok (.iload_n 2, 1) := by decide +kernel
theorem dd_X8_takeNumber_3 : decode Y_X8_takeNumber.2.1 3 = .ok (.invokevirtual 71, 3) := by decide +kernel
theorem dd_X8_takeNumber_6 : decode Y_X8_takeNumber.2.1 6 = .ok (.ifCond .eq 10, 3) := by decide +kernel
theorem dd_X8_takeNumber_9 : decode Y_X8_takeNumber.2.1 9 = .ok (.aload_n 0, 1) := by decide +kernel
theorem dd_X8_takeNumber_10 : decode Y_X8_takeNumber.2.1 10 = .ok (.getfield 31, 3) := by decide +kernel
theorem dd_X8_takeNumber_13 : decode Y_X8_takeNumber.2.1 13 = .ok (.goto 4, 3) := by decide +kernel
theorem dd_X8_takeNumber_16 : decode Y_X8_takeNumber.2.1 16 = .ok (.iload_n 1, 1) := by decide +kernel
theorem dd_X8_takeNumber_17 : decode Y_X8_takeNumber.2.1 17 = .ok (.istore_n 3, 1) := by decide +kernel
theorem dd_X8_takeNumber_18 : decode Y_X8_takeNumber.2.1 18 = .ok (.aload_n 0, 1) := by decide +kernel
theorem dd_X8_takeNumber_19 : decode Y_X8_takeNumber.2.1 19 = .ok (.invokevirtual 40, 3) := by decide +kernel
theorem dd_X8_takeNumber_22 : decode Y_X8_takeNumber.2.1 22 = .ok (.iload_n 3, 1) := by decide +kernel
theorem dd_X8_takeNumber_23 : decode Y_X8_takeNumber.2.1 23 = .ok (.ireturn, 1) := by decide +kernel
def F_X8_takeNumber (t : Nat) (a1 : Int32) (a2 : Int32) (M : zM) : zO := zbI (F_X8_standsNumber t a1 a2 M) (fun r1 M1 => zjo (fun (w1 : Int32) (M2 : zM) => zbV (F_X8_step t M2) (fun M3 => zI w1 M3)) (fun (k1 : Int32 → zM → zO) => zit (r1 = 0) (k1 a1 M1) (k1 (M1 t 6) M1)))
set_option maxHeartbeats 1000000 in
set_option maxRecDepth 20000 in
theorem ct_X8_takeNumber (l : Launch) (hl : l.stackTraces = false) (G : zG) (t : Nat) (ht : zsh t = 8) (a1 : Int32) (a2 : Int32) (M : zM) : zMt l G Y_X8_takeNumber 13 [.ref (G.2.1 + t), .int a1, .int a2] M (F_X8_takeNumber t a1 a2 M) := by
  refine zMt_of (by decide +kernel) (Nat.le_of_ble_eq_true rfl) ?_
  show zEv l G Y_X8_takeNumber 13 0 0 [(0, .ref (G.2.1 + t)), (1, .int a1), (2, .int a2)] [] M (zbI (F_X8_standsNumber t a1 a2 M) (fun r1 M1 => zjo (fun (w1 : Int32) (M2 : zM) => zbV (F_X8_step t M2) (fun M3 => zI w1 M3)) (fun (k1 : Int32 → zM → zO) => zit (r1 = 0) (k1 a1 M1) (k1 (M1 t 6) M1))))
  refine ev_aload_n dd_X8_takeNumber_0 0 rfl ?_
  refine ev_iload_n dd_X8_takeNumber_1 1 rfl ?_
  refine ev_iload_n dd_X8_takeNumber_2 2 rfl ?_
  refine ev_lv (lv' := [(0, .ref (G.2.1 + t)), (1, .int a1)]) [0, 1] rfl ?_
  refine ev_callVI (As := [.int a1, .int a2]) cl_RX8_71 (ct_X8_standsNumber l hl G t ht a1 a2 M) dd_X8_takeNumber_3 ht (by decide) (Nat.le_of_ble_eq_true rfl) (Nat.le_of_ble_eq_true rfl) rfl rfl (fun r1 M1 => ?_)
  refine ev_jo (fun (k1 : Int32 → zM → zO) => ∀ (w1 : Int32) (M2 : zM), zEv l G Y_X8_takeNumber 13 0 17 [(0, .ref (G.2.1 + t))] [.int w1] M2 (k1 w1 M2)) ?_ (fun k1 hk1 => ?_)
  · intro w1 M2
    refine ev_istore_n (i := 3) (lv' := [(0, .ref (G.2.1 + t)), (3, .int w1)]) [1, 0] dd_X8_takeNumber_17 rfl (by decide) rfl ?_
    refine ev_aload_n dd_X8_takeNumber_18 0 rfl ?_
    refine ev_lv (lv' := [(3, .int w1)]) [1] rfl ?_
    refine ev_callVV (As := []) cl_RX8_40 (ct_X8_step l hl G t ht M2) dd_X8_takeNumber_19 ht (by decide) (Nat.le_of_ble_eq_true rfl) (Nat.le_of_ble_eq_true rfl) rfl rfl (fun M3 => ?_)
    refine ev_iload_n dd_X8_takeNumber_22 0 rfl ?_
    refine ev_lv (lv' := []) [] rfl ?_
    exact ev_iret dd_X8_takeNumber_23 rfl (Nat.le_of_ble_eq_true rfl) rfl
  · refine ev_if_eq 16 dd_X8_takeNumber_6 (by decide) ?_ ?_
    · refine ev_iload_n dd_X8_takeNumber_16 1 rfl ?_
      refine ev_lv (lv' := [(0, .ref (G.2.1 + t))]) [0] rfl ?_
      exact hk1 _ _
    · refine ev_lv (lv' := [(0, .ref (G.2.1 + t))]) [0] rfl ?_
      refine ev_aload_n dd_X8_takeNumber_9 0 rfl ?_
      refine ev_getI gf_RX8_31 dd_X8_takeNumber_10 ht (by decide) ?_
      refine ev_goto 17 dd_X8_takeNumber_13 (by decide) ?_
      exact hk1 _ _
/-! X8_takeSign -/
theorem dd_X8_takeSign_0 : decode Y_X8_takeSign.2.1 0 = .ok (.aload_n 0, 1) := by decide +kernel
theorem dd_X8_takeSign_1 : decode Y_X8_takeSign.2.1 1 = .ok (.getfield 22, 3) := by decide +kernel
theorem dd_X8_takeSign_4 : decode Y_X8_takeSign.2.1 4 = .ok (.iload_n 1, 1) := by decide +kernel
theorem dd_X8_takeSign_5 : decode Y_X8_takeSign.2.1 5 = .ok (.if_icmp .ne 10, 3) := by decide +kernel
theorem dd_X8_takeSign_8 : decode Y_X8_takeSign.2.1 8 = .ok (.aload_n 0, 1) := by decide +kernel
theorem dd_X8_takeSign_9 : decode Y_X8_takeSign.2.1 9 = .ok (.invokevirtual 40, 3) := by decide +kernel
theorem dd_X8_takeSign_12 : decode Y_X8_takeSign.2.1 12 = .ok (.goto 8, 3) := by decide +kernel
theorem dd_X8_takeSign_15 : decode Y_X8_takeSign.2.1 15 = .ok (.aload_n 0, 1) := by decide +kernel
theorem dd_X8_takeSign_16 : decode Y_X8_takeSign.2.1 16 = .ok (.iconst 1, 1) := by decide +kernel
theorem dd_X8_takeSign_17 : decode Y_X8_takeSign.2.1 17 = .ok (.invokevirtual 67, 3) := by decide +kernel
theorem dd_X8_takeSign_20 : decode Y_X8_takeSign.2.1 20 = .ok (.return_, 1) := by decide +kernel
def F_X8_takeSign (t : Nat) (a1 : Int32) (M : zM) : zO := zjo (fun  (M3 : zM) => zV M3) (fun (k1 : zM → zO) => zit ((M t 3) = a1) (zbV (F_X8_step t M) (fun M2 => k1 M2)) (zbV (F_X8_refuse t 1 M) (fun M1 => k1 M1)))
set_option maxHeartbeats 1000000 in
set_option maxRecDepth 20000 in
theorem ct_X8_takeSign (l : Launch) (hl : l.stackTraces = false) (G : zG) (t : Nat) (ht : zsh t = 8) (a1 : Int32) (M : zM) : zMt l G Y_X8_takeSign 13 [.ref (G.2.1 + t), .int a1] M (F_X8_takeSign t a1 M) := by
  refine zMt_of (by decide +kernel) (Nat.le_of_ble_eq_true rfl) ?_
  show zEv l G Y_X8_takeSign 13 0 0 [(0, .ref (G.2.1 + t)), (1, .int a1)] [] M (zjo (fun  (M3 : zM) => zV M3) (fun (k1 : zM → zO) => zit ((M t 3) = a1) (zbV (F_X8_step t M) (fun M2 => k1 M2)) (zbV (F_X8_refuse t 1 M) (fun M1 => k1 M1))))
  refine ev_aload_n dd_X8_takeSign_0 0 rfl ?_
  refine ev_getI gf_RX8_22 dd_X8_takeSign_1 ht (by decide) ?_
  refine ev_iload_n dd_X8_takeSign_4 1 rfl ?_
  refine ev_lv (lv' := [(0, .ref (G.2.1 + t))]) [0] rfl ?_
  refine ev_jo (fun (k1 : zM → zO) => ∀  (M3 : zM), zEv l G Y_X8_takeSign 13 0 20 [] [] M3 (k1 M3)) ?_ (fun k1 hk1 => ?_)
  · intro M3
    exact ev_vret dd_X8_takeSign_20 rfl (Nat.le_of_ble_eq_true rfl) rfl
  · refine ev_icmp_ne 15 dd_X8_takeSign_5 (by decide) ?_ ?_
    · refine ev_aload_n dd_X8_takeSign_15 0 rfl ?_
      refine ev_lv (lv' := []) [] rfl ?_
      refine ev_iconst (v := 1) dd_X8_takeSign_16 (by decide) ?_
      refine ev_callVV (As := [.int 1]) cl_RX8_67 (ct_X8_refuse l hl G t ht 1 M) dd_X8_takeSign_17 ht (by decide) (Nat.le_of_ble_eq_true rfl) (Nat.le_of_ble_eq_true rfl) rfl rfl (fun M1 => ?_)
      exact hk1 _
    · refine ev_aload_n dd_X8_takeSign_8 0 rfl ?_
      refine ev_lv (lv' := []) [] rfl ?_
      refine ev_callVV (As := []) cl_RX8_40 (ct_X8_step l hl G t ht M) dd_X8_takeSign_9 ht (by decide) (Nat.le_of_ble_eq_true rfl) (Nat.le_of_ble_eq_true rfl) rfl rfl (fun M2 => ?_)
      refine ev_goto 20 dd_X8_takeSign_12 (by decide) ?_
      exact hk1 _
/-! X0_readPart -/
theorem dd_X0_readPart_0 : decode Y_X0_readPart.2.1 0 = .ok (.aload_n 1, 1) := by decide +kernel
theorem dd_X0_readPart_1 : decode Y_X0_readPart.2.1 1 = .ok (.getfield 35, 3) := by decide +kernel
theorem dd_X0_readPart_4 : decode Y_X0_readPart.2.1 4 = .ok (.bipush 40, 2) := by decide +kernel
theorem dd_X0_readPart_6 : decode Y_X0_readPart.2.1 6 = .ok (.if_icmp .ne 24, 3) := by decide +kernel
theorem dd_X0_readPart_9 : decode Y_X0_readPart.2.1 9 = .ok (.aload_n 1, 1) := by decide +kernel
theorem dd_X0_readPart_10 : decode Y_X0_readPart.2.1 10 = .ok (.invokevirtual 54, 3) := by decide +kernel
theorem dd_X0_readPart_13 : decode Y_X0_readPart.2.1 13 = .ok (.aload_n 0, 1) := by decide +kernel
theorem dd_X0_readPart_14 : decode Y_X0_readPart.2.1 14 = .ok (.aload_n 1, 1) := by decide +kernel
theorem dd_X0_readPart_15 : decode Y_X0_readPart.2.1 15 = .ok (.iload_n 2, 1) := by decide +kernel
theorem dd_X0_readPart_16 : decode Y_X0_readPart.2.1 16 = .ok (.iconst 1, 1) := by decide +kernel
theorem dd_X0_readPart_17 : decode Y_X0_readPart.2.1 17 = .ok (.iadd, 1) := by decide +kernel
theorem dd_X0_readPart_18 : decode Y_X0_readPart.2.1 18 = .ok (.invokevirtual 79, 3) := by decide +kernel
theorem dd_X0_readPart_21 : decode Y_X0_readPart.2.1 21 = .ok (.aload_n 1, 1) := by decide +kernel
theorem dd_X0_readPart_22 : decode Y_X0_readPart.2.1 22 = .ok (.bipush 41, 2) := by decide +kernel
theorem dd_X0_readPart_24 : decode Y_X0_readPart.2.1 24 = .ok (.invokevirtual 82, 3) := by decide +kernel
theorem dd_X0_readPart_27 : decode Y_X0_readPart.2.1 27 = .ok (.goto 54, 3) := by decide +kernel
theorem dd_X0_readPart_30 : decode Y_X0_readPart.2.1 30 = .ok (.aload_n 1, 1) := by decide +kernel
theorem dd_X0_readPart_31 : decode Y_X0_readPart.2.1 31 = .ok (.getfield 35, 3) := by decide +kernel
theorem dd_X0_readPart_34 : decode Y_X0_readPart.2.1 34 = .ok (.sipush 257, 3) := by decide +kernel
theorem dd_X0_readPart_37 : decode Y_X0_readPart.2.1 37 = .ok (.if_icmp .ne 32, 3) := by decide +kernel
theorem dd_X0_readPart_40 : decode Y_X0_readPart.2.1 40 = .ok (.aload_n 1, 1) := by decide +kernel
theorem dd_X0_readPart_41 : decode Y_X0_readPart.2.1 41 = .ok (.invokestatic 85, 3) := by decide +kernel
theorem dd_X0_readPart_44 : decode Y_X0_readPart.2.1 44 = .ok (.istore_n 3, 1) := by decide +kernel
theorem dd_X0_readPart_45 : decode Y_X0_readPart.2.1 45 = .ok (.iload_n 3, 1) := by decide +kernel
theorem dd_X0_readPart_46 : decode Y_X0_readPart.2.1 46 = .ok (.iconst (-1), 1) := by decide +kernel
theorem dd_X0_readPart_47 : decode Y_X0_readPart.2.1 47 = .ok (.if_icmp .ne 8, 3) := by decide +kernel
theorem dd_X0_readPart_50 : decode Y_X0_readPart.2.1 50 = .ok (.aload_n 1, 1) := by decide +kernel
theorem dd_X0_readPart_51 : decode Y_X0_readPart.2.1 51 = .ok (.iconst 3, 1) := by decide +kernel
theorem dd_X0_readPart_52 : decode Y_X0_readPart.2.1 52 = .ok (.invokevirtual 40, 3) := by decide +kernel
theorem dd_X0_readPart_55 : decode Y_X0_readPart.2.1 55 = .ok (.aload_n 0, 1) := by decide +kernel
theorem dd_X0_readPart_56 : decode Y_X0_readPart.2.1 56 = .ok (.iconst (-1), 1) := by decide +kernel
theorem dd_X0_readPart_57 : decode Y_X0_readPart.2.1 57 = .ok (.iload_n 3, 1) := by decide +kernel
theorem dd_X0_readPart_58 : decode Y_X0_readPart.2.1 58 = .ok (.isub, 1) := by decide +kernel
theorem dd_X0_readPart_59 : decode Y_X0_readPart.2.1 59 = .ok (.invokevirtual 57, 3) := by decide +kernel
theorem dd_X0_readPart_62 : decode Y_X0_readPart.2.1 62 = .ok (.aload_n 1, 1) := by decide +kernel
theorem dd_X0_readPart_63 : decode Y_X0_readPart.2.1 63 = .ok (.invokevirtual 54, 3) := by decide +kernel
theorem dd_X0_readPart_66 : decode Y_X0_readPart.2.1 66 = .ok (.goto 15, 3) := by decide +kernel
theorem dd_X0_readPart_69 : decode Y_X0_readPart.2.1 69 = .ok (.aload_n 0, 1) := by decide +kernel
theorem dd_X0_readPart_70 : decode Y_X0_readPart.2.1 70 = .ok (.aload_n 1, 1) := by decide +kernel
theorem dd_X0_readPart_71 : decode Y_X0_readPart.2.1 71 = .ok (.iconst 0, 1) := by decide +kernel
theorem dd_X0_readPart_72 : decode Y_X0_readPart.2.1 72 = .ok (.sipush 9999, 3) := by decide +kernel
theorem dd_X0_readPart_75 : decode Y_X0_readPart.2.1 75 = .ok (.invokevirtual 89, 3) := by decide +kernel
theorem dd_X0_readPart_78 : decode Y_X0_readPart.2.1 78 = .ok (.invokevirtual 57, 3) := by decide +kernel
theorem dd_X0_readPart_81 : decode Y_X0_readPart.2.1 81 = .ok (.return_, 1) := by decide +kernel
def F_X0_readPart (R : Nat → Nat → Int32 → zM → zO) (t : Nat) (a1 : Nat) (a2 : Int32) (M : zM) : zO := zjo (fun  (M11 : zM) => zV M11) (fun (k1 : zM → zO) => zit ((M a1 3) = 40) (zbV (F_X8_step a1 M) (fun M8 => zbV (R t a1 (a2 + 1) M8) (fun M9 => zbV (F_X8_takeSign a1 41 M9) (fun M10 => k1 M10)))) (zit ((M a1 3) = 257) (zbI (F_X0_valueAt a1 M) (fun r2 M3 => zjo (fun  (M5 : zM) => zbV (F_X0_add t ((-1) - r2) M5) (fun M6 => zbV (F_X8_step a1 M6) (fun M7 => k1 M7))) (fun (k2 : zM → zO) => zit (r2 = (-1)) (zbV (F_X8_refuse a1 3 M3) (fun M4 => k2 M4)) (k2 M3)))) (zbI (F_X8_takeNumber a1 0 9999 M) (fun r1 M1 => zbV (F_X0_add t r1 M1) (fun M2 => k1 M2)))))
set_option maxHeartbeats 1000000 in
set_option maxRecDepth 20000 in
theorem ct_X0_readPart (l : Launch) (hl : l.stackTraces = false) (G : zG) (D : Nat) (R : Nat → Nat → Int32 → zM → zO) (hR : ∀ (t : Nat) (ht : zsh t = 0) (a1 : Nat) (ha1 : zsh a1 = 8) (a2 : Int32) (M : zM), zMt l G Y_X0_readExpr D [.ref (G.2.1 + t), .ref (G.2.1 + a1), .int a2] M (R t a1 a2 M)) (t : Nat) (ht : zsh t = 0) (a1 : Nat) (ha1 : zsh a1 = 8) (a2 : Int32) (M : zM) : zMt l G Y_X0_readPart (D + 14) [.ref (G.2.1 + t), .ref (G.2.1 + a1), .int a2] M (F_X0_readPart R t a1 a2 M) := by
  refine zMt_of (by decide +kernel) (Nat.le_of_ble_eq_true rfl) ?_
  show zEv l G Y_X0_readPart (D + 14) 0 0 [(0, .ref (G.2.1 + t)), (1, .ref (G.2.1 + a1)), (2, .int a2)] [] M (zjo (fun  (M11 : zM) => zV M11) (fun (k1 : zM → zO) => zit ((M a1 3) = 40) (zbV (F_X8_step a1 M) (fun M8 => zbV (R t a1 (a2 + 1) M8) (fun M9 => zbV (F_X8_takeSign a1 41 M9) (fun M10 => k1 M10)))) (zit ((M a1 3) = 257) (zbI (F_X0_valueAt a1 M) (fun r2 M3 => zjo (fun  (M5 : zM) => zbV (F_X0_add t ((-1) - r2) M5) (fun M6 => zbV (F_X8_step a1 M6) (fun M7 => k1 M7))) (fun (k2 : zM → zO) => zit (r2 = (-1)) (zbV (F_X8_refuse a1 3 M3) (fun M4 => k2 M4)) (k2 M3)))) (zbI (F_X8_takeNumber a1 0 9999 M) (fun r1 M1 => zbV (F_X0_add t r1 M1) (fun M2 => k1 M2))))))
  refine ev_aload_n dd_X0_readPart_0 1 rfl ?_
  refine ev_getI gf_RX0_35 dd_X0_readPart_1 ha1 (by decide) ?_
  refine ev_bipush (v := 40) dd_X0_readPart_4 (by decide) ?_
  refine ev_jo (fun (k1 : zM → zO) => ∀  (M11 : zM), zEv l G Y_X0_readPart (D + 14) 0 81 [] [] M11 (k1 M11)) ?_ (fun k1 hk1 => ?_)
  · intro M11
    exact ev_vret dd_X0_readPart_81 rfl (Nat.le_of_ble_eq_true rfl) rfl
  · refine ev_icmp_ne 30 dd_X0_readPart_6 (by decide) ?_ ?_
    · refine ev_lv (lv' := [(0, .ref (G.2.1 + t)), (1, .ref (G.2.1 + a1))]) [0, 1] rfl ?_
      refine ev_aload_n dd_X0_readPart_30 1 rfl ?_
      refine ev_getI gf_RX0_35 dd_X0_readPart_31 ha1 (by decide) ?_
      refine ev_sipush (v := 257) dd_X0_readPart_34 (by decide) ?_
      refine ev_icmp_ne 69 dd_X0_readPart_37 (by decide) ?_ ?_
      · refine ev_aload_n dd_X0_readPart_69 0 rfl ?_
        refine ev_lv (lv' := [(1, .ref (G.2.1 + a1))]) [1] rfl ?_
        refine ev_aload_n dd_X0_readPart_70 0 rfl ?_
        refine ev_lv (lv' := []) [] rfl ?_
        refine ev_iconst (v := 0) dd_X0_readPart_71 (by decide) ?_
        refine ev_sipush (v := 9999) dd_X0_readPart_72 (by decide) ?_
        refine ev_callVI (As := [.int 0, .int 9999]) cl_RX0_89 (ct_X8_takeNumber l hl G a1 ha1 0 9999 M) dd_X0_readPart_75 ha1 (by omega) (Nat.le_of_ble_eq_true rfl) (Nat.le_of_ble_eq_true rfl) rfl rfl (fun r1 M1 => ?_)
        refine ev_callVV (As := [.int r1]) cl_RX0_57 (ct_X0_add l hl G t ht r1 M1) dd_X0_readPart_78 ht (by omega) (Nat.le_of_ble_eq_true rfl) (Nat.le_of_ble_eq_true rfl) rfl rfl (fun M2 => ?_)
        exact hk1 _
      · refine ev_aload_n dd_X0_readPart_40 1 rfl ?_
        refine ev_callSI (As := [.ref (G.2.1 + a1)]) cl_RX0_85 (ct_X0_valueAt l hl G a1 ha1 M) dd_X0_readPart_41 (by omega) (Nat.le_of_ble_eq_true rfl) (Nat.le_of_ble_eq_true rfl) rfl rfl (fun r2 M3 => ?_)
        refine ev_istore_n (i := 3) (lv' := [(0, .ref (G.2.1 + t)), (1, .ref (G.2.1 + a1)), (3, .int r2)]) [1, 2, 0] dd_X0_readPart_44 rfl (by decide) rfl ?_
        refine ev_iload_n dd_X0_readPart_45 2 rfl ?_
        refine ev_iconst (v := (-1)) dd_X0_readPart_46 (by decide) ?_
        refine ev_jo (fun (k2 : zM → zO) => ∀  (M5 : zM), zEv l G Y_X0_readPart (D + 14) 0 55 [(0, .ref (G.2.1 + t)), (1, .ref (G.2.1 + a1)), (3, .int r2)] [] M5 (k2 M5)) ?_ (fun k2 hk2 => ?_)
        · intro M5
          refine ev_aload_n dd_X0_readPart_55 0 rfl ?_
          refine ev_lv (lv' := [(1, .ref (G.2.1 + a1)), (3, .int r2)]) [1, 2] rfl ?_
          refine ev_iconst (v := (-1)) dd_X0_readPart_56 (by decide) ?_
          refine ev_iload_n dd_X0_readPart_57 1 rfl ?_
          refine ev_lv (lv' := [(1, .ref (G.2.1 + a1))]) [0] rfl ?_
          refine ev_isub dd_X0_readPart_58 ?_
          refine ev_callVV (As := [.int ((-1) - r2)]) cl_RX0_57 (ct_X0_add l hl G t ht ((-1) - r2) M5) dd_X0_readPart_59 ht (by omega) (Nat.le_of_ble_eq_true rfl) (Nat.le_of_ble_eq_true rfl) rfl rfl (fun M6 => ?_)
          refine ev_aload_n dd_X0_readPart_62 0 rfl ?_
          refine ev_lv (lv' := []) [] rfl ?_
          refine ev_callVV (As := []) cl_RX0_54 (ct_X8_step l hl G a1 ha1 M6) dd_X0_readPart_63 ha1 (by omega) (Nat.le_of_ble_eq_true rfl) (Nat.le_of_ble_eq_true rfl) rfl rfl (fun M7 => ?_)
          refine ev_goto 81 dd_X0_readPart_66 (by decide) ?_
          exact hk1 _
        · refine ev_icmp_ne 55 dd_X0_readPart_47 (by decide) ?_ ?_
          · exact hk2 _
          · refine ev_aload_n dd_X0_readPart_50 1 rfl ?_
            refine ev_iconst (v := 3) dd_X0_readPart_51 (by decide) ?_
            refine ev_callVV (As := [.int 3]) cl_RX0_40 (ct_X8_refuse l hl G a1 ha1 3 M3) dd_X0_readPart_52 ha1 (by omega) (Nat.le_of_ble_eq_true rfl) (Nat.le_of_ble_eq_true rfl) rfl rfl (fun M4 => ?_)
            exact hk2 _
    · refine ev_aload_n dd_X0_readPart_9 1 rfl ?_
      refine ev_callVV (As := []) cl_RX0_54 (ct_X8_step l hl G a1 ha1 M) dd_X0_readPart_10 ha1 (by omega) (Nat.le_of_ble_eq_true rfl) (Nat.le_of_ble_eq_true rfl) rfl rfl (fun M8 => ?_)
      refine ev_aload_n dd_X0_readPart_13 0 rfl ?_
      refine ev_lv (lv' := [(1, .ref (G.2.1 + a1)), (2, .int a2)]) [1, 2] rfl ?_
      refine ev_aload_n dd_X0_readPart_14 0 rfl ?_
      refine ev_iload_n dd_X0_readPart_15 1 rfl ?_
      refine ev_lv (lv' := [(1, .ref (G.2.1 + a1))]) [0] rfl ?_
      refine ev_iconst (v := 1) dd_X0_readPart_16 (by decide) ?_
      refine ev_iadd dd_X0_readPart_17 ?_
      refine ev_callVV (As := [.ref (G.2.1 + a1), .int (a2 + 1)]) cl_RX0_79 (hR t ht a1 ha1 (a2 + 1) M8) dd_X0_readPart_18 ht (by omega) (Nat.le_of_ble_eq_true rfl) (Nat.le_of_ble_eq_true rfl) rfl rfl (fun M9 => ?_)
      refine ev_aload_n dd_X0_readPart_21 0 rfl ?_
      refine ev_lv (lv' := []) [] rfl ?_
      refine ev_bipush (v := 41) dd_X0_readPart_22 (by decide) ?_
      refine ev_callVV (As := [.int 41]) cl_RX0_82 (ct_X8_takeSign l hl G a1 ha1 41 M9) dd_X0_readPart_24 ha1 (by omega) (Nat.le_of_ble_eq_true rfl) (Nat.le_of_ble_eq_true rfl) rfl rfl (fun M10 => ?_)
      refine ev_goto 81 dd_X0_readPart_27 (by decide) ?_
      exact hk1 _
/-! X0_readProduct -/
theorem dd_X0_readProduct_0 : decode Y_X0_readProduct.2.1 0 = .ok (.aload_n 0, 1) := by decide +kernel
theorem dd_X0_readProduct_1 : decode Y_X0_readProduct.2.1 1 = .ok (.aload_n 1, 1) := by decide +kernel
theorem dd_X0_readProduct_2 : decode Y_X0_readProduct.2.1 2 = .ok (.iload_n 2, 1) := by decide +kernel
theorem dd_X0_readProduct_3 : decode Y_X0_readProduct.2.1 3 = .ok (.invokevirtual 76, 3) := by decide +kernel
theorem dd_X0_readProduct_6 : decode Y_X0_readProduct.2.1 6 = .ok (.iconst 0, 1) := by decide +kernel
theorem dd_X0_readProduct_7 : decode Y_X0_readProduct.2.1 7 = .ok (.istore_n 3, 1) := by decide +kernel
theorem dd_X0_readProduct_8 : decode Y_X0_readProduct.2.1 8 = .ok (.iload_n 3, 1) := by decide +kernel
theorem dd_X0_readProduct_9 : decode Y_X0_readProduct.2.1 9 = .ok (.sipush 700, 3) := by decide +kernel
theorem dd_X0_readProduct_12 : decode Y_X0_readProduct.2.1 12 = .ok (.if_icmp .ge 61, 3) := by decide +kernel
theorem dd_X0_readProduct_15 : decode Y_X0_readProduct.2.1 15 = .ok (.aload_n 1, 1) := by decide +kernel
theorem dd_X0_readProduct_16 : decode Y_X0_readProduct.2.1 16 = .ok (.getfield 35, 3) := by decide +kernel
theorem dd_X0_readProduct_19 : decode Y_X0_readProduct.2.1 19 = .ok (.bipush 42, 2) := by decide +kernel
theorem dd_X0_readProduct_21 : decode Y_X0_readProduct.2.1 21 = .ok (.if_icmp .eq 12, 3) := by decide +kernel
theorem dd_X0_readProduct_24 : decode Y_X0_readProduct.2.1 24 = .ok (.aload_n 1, 1) := by decide +kernel
theorem dd_X0_readProduct_25 : decode Y_X0_readProduct.2.1 25 = .ok (.getfield 35, 3) := by decide +kernel
theorem dd_X0_readProduct_28 : decode Y_X0_readProduct.2.1 28 = .ok (.bipush 47, 2) := by decide +kernel
theorem dd_X0_readProduct_30 : decode Y_X0_readProduct.2.1 30 = .ok (.if_icmp .ne 43, 3) := by decide +kernel
theorem dd_X0_readProduct_33 : decode Y_X0_readProduct.2.1 33 = .ok (.aload_n 1, 1) := by decide +kernel
theorem dd_X0_readProduct_34 : decode Y_X0_readProduct.2.1 34 = .ok (.getfield 35, 3) := by decide +kernel
theorem dd_X0_readProduct_37 : decode Y_X0_readProduct.2.1 37 = .ok (.bipush 42, 2) := by decide +kernel
theorem dd_X0_readProduct_39 : decode Y_X0_readProduct.2.1 39 = .ok (.if_icmp .ne 8, 3) := by decide +kernel
theorem dd_X0_readProduct_42 : decode Y_X0_readProduct.2.1 42 = .ok (.bipush (-13), 2) := by decide +kernel
theorem dd_X0_readProduct_44 : decode Y_X0_readProduct.2.1 44 = .ok (.goto 5, 3) := by decide +kernel
theorem dd_X0_readProduct_47 : decode Y_X0_readProduct.2.1 47 = .ok (.bipush (-14), 2) := by decide +kernel
theorem dd_X0_readProduct_49 : decode Y_X0_readProduct.2.1 49 = .ok (.istore 4, 2) := by decide +kernel
theorem dd_X0_readProduct_51 : decode Y_X0_readProduct.2.1 51 = .ok (.aload_n 1, 1) := by decide +kernel
theorem dd_X0_readProduct_52 : decode Y_X0_readProduct.2.1 52 = .ok (.invokevirtual 54, 3) := by decide +kernel
theorem dd_X0_readProduct_55 : decode Y_X0_readProduct.2.1 55 = .ok (.aload_n 0, 1) := by decide +kernel
theorem dd_X0_readProduct_56 : decode Y_X0_readProduct.2.1 56 = .ok (.aload_n 1, 1) := by decide +kernel
theorem dd_X0_readProduct_57 : decode Y_X0_readProduct.2.1 57 = .ok (.iload_n 2, 1) := by decide +kernel
theorem dd_X0_readProduct_58 : decode Y_X0_readProduct.2.1 58 = .ok (.invokevirtual 76, 3) := by decide +kernel
theorem dd_X0_readProduct_61 : decode Y_X0_readProduct.2.1 61 = .ok (.aload_n 0, 1) := by decide +kernel
theorem dd_X0_readProduct_62 : decode Y_X0_readProduct.2.1 62 = .ok (.iload 4, 2) := by decide +kernel
theorem dd_X0_readProduct_64 : decode Y_X0_readProduct.2.1 64 = .ok (.invokevirtual 57, 3) := by decide +kernel
theorem dd_X0_readProduct_67 : decode Y_X0_readProduct.2.1 67 = .ok (.iinc 3 1, 3) := by decide +kernel
theorem dd_X0_readProduct_70 : decode Y_X0_readProduct.2.1 70 = .ok (.goto (-62), 3) := by decide +kernel
theorem dd_X0_readProduct_73 : decode Y_X0_readProduct.2.1 73 = .ok (.return_, 1) := by decide +kernel
def F_X0_readProduct_L8 (R : Nat → Nat → Int32 → zM → zO) (x0 : Nat) (x1 : Nat) (x2 : Int32) (K73 : zM → zO) : Nat → Int32 → zM → zO
  | 0, _, _ => none
  | n + 1, x3, M => zit (700 ≤ x3) (K73 M) (zjo (fun  (M2 : zM) => zjo (fun (w1 : Int32) (M3 : zM) => zbV (F_X8_step x1 M3) (fun M4 => zbV (F_X0_readPart R x0 x1 x2 M4) (fun M5 => zbV (F_X0_add x0 w1 M5) (fun M6 => F_X0_readProduct_L8 R x0 x1 x2 K73 n (x3 + 1) M6)))) (fun (k2 : Int32 → zM → zO) => zit ((M2 x1 3) = 42) (k2 (-13) M2) (k2 (-14) M2))) (fun (k1 : zM → zO) => zit ((M x1 3) = 42) (k1 M) (zit ((M x1 3) = 47) (k1 M) (K73 M))))
def F_X0_readProduct (R : Nat → Nat → Int32 → zM → zO) (t : Nat) (a1 : Nat) (a2 : Int32) (M : zM) : zO := zbV (F_X0_readPart R t a1 a2 M) (fun M1 => F_X0_readProduct_L8 R t a1 a2 (fun  (M7 : zM) => zV M7) zN 0 M1)
set_option maxHeartbeats 1000000 in
set_option maxRecDepth 20000 in
theorem ct_X0_readProduct_L8 (l : Launch) (hl : l.stackTraces = false) (G : zG) (D : Nat) (R : Nat → Nat → Int32 → zM → zO) (hR : ∀ (t : Nat) (ht : zsh t = 0) (a1 : Nat) (ha1 : zsh a1 = 8) (a2 : Int32) (M : zM), zMt l G Y_X0_readExpr D [.ref (G.2.1 + t), .ref (G.2.1 + a1), .int a2] M (R t a1 a2 M)) (x0 : Nat) (hx0 : zsh x0 = 0) (x1 : Nat) (hx1 : zsh x1 = 8) (x2 : Int32) (K73 : zM → zO) (hK73 : ∀  (M : zM), zEv l G Y_X0_readProduct (D + 15) 0 73 [] [] M (K73 M)) : ∀ (n : Nat) (x3 : Int32) (M : zM), zEv l G Y_X0_readProduct (D + 15) 0 8 [(0, .ref (G.2.1 + x0)), (1, .ref (G.2.1 + x1)), (2, .int x2), (3, .int x3)] [] M (F_X0_readProduct_L8 R x0 x1 x2 K73 n x3 M) := by
  intro n
  induction n with
  | zero => intro x3 M; exact ev_none
  | succ n ih =>
    intro x3 M
    show zEv l G Y_X0_readProduct (D + 15) 0 8 [(0, .ref (G.2.1 + x0)), (1, .ref (G.2.1 + x1)), (2, .int x2), (3, .int x3)] [] M (zit (700 ≤ x3) (K73 M) (zjo (fun  (M2 : zM) => zjo (fun (w1 : Int32) (M3 : zM) => zbV (F_X8_step x1 M3) (fun M4 => zbV (F_X0_readPart R x0 x1 x2 M4) (fun M5 => zbV (F_X0_add x0 w1 M5) (fun M6 => F_X0_readProduct_L8 R x0 x1 x2 K73 n (x3 + 1) M6)))) (fun (k2 : Int32 → zM → zO) => zit ((M2 x1 3) = 42) (k2 (-13) M2) (k2 (-14) M2))) (fun (k1 : zM → zO) => zit ((M x1 3) = 42) (k1 M) (zit ((M x1 3) = 47) (k1 M) (K73 M)))))
    refine ev_iload_n dd_X0_readProduct_8 3 rfl ?_
    refine ev_sipush (v := 700) dd_X0_readProduct_9 (by decide) ?_
    refine ev_icmp_ge 73 dd_X0_readProduct_12 (by decide) ?_ ?_
    · refine ev_lv (lv' := []) [] rfl ?_
      exact hK73 _
    · refine ev_aload_n dd_X0_readProduct_15 1 rfl ?_
      refine ev_getI gf_RX0_35 dd_X0_readProduct_16 hx1 (by decide) ?_
      refine ev_bipush (v := 42) dd_X0_readProduct_19 (by decide) ?_
      refine ev_jo (fun (k1 : zM → zO) => ∀  (M2 : zM), zEv l G Y_X0_readProduct (D + 15) 0 33 [(0, .ref (G.2.1 + x0)), (1, .ref (G.2.1 + x1)), (2, .int x2), (3, .int x3)] [] M2 (k1 M2)) ?_ (fun k1 hk1 => ?_)
      · intro M2
        refine ev_aload_n dd_X0_readProduct_33 1 rfl ?_
        refine ev_getI gf_RX0_35 dd_X0_readProduct_34 hx1 (by decide) ?_
        refine ev_bipush (v := 42) dd_X0_readProduct_37 (by decide) ?_
        refine ev_jo (fun (k2 : Int32 → zM → zO) => ∀ (w1 : Int32) (M3 : zM), zEv l G Y_X0_readProduct (D + 15) 0 49 [(0, .ref (G.2.1 + x0)), (1, .ref (G.2.1 + x1)), (2, .int x2), (3, .int x3)] [.int w1] M3 (k2 w1 M3)) ?_ (fun k2 hk2 => ?_)
        · intro w1 M3
          refine ev_istore (i := 4) (lv' := [(0, .ref (G.2.1 + x0)), (1, .ref (G.2.1 + x1)), (2, .int x2), (3, .int x3), (4, .int w1)]) [1, 2, 3, 4, 0] dd_X0_readProduct_49 (by decide) rfl ?_
          refine ev_aload_n dd_X0_readProduct_51 1 rfl ?_
          refine ev_callVV (As := []) cl_RX0_54 (ct_X8_step l hl G x1 hx1 M3) dd_X0_readProduct_52 hx1 (by omega) (Nat.le_of_ble_eq_true rfl) (Nat.le_of_ble_eq_true rfl) rfl rfl (fun M4 => ?_)
          refine ev_aload_n dd_X0_readProduct_55 0 rfl ?_
          refine ev_aload_n dd_X0_readProduct_56 1 rfl ?_
          refine ev_iload_n dd_X0_readProduct_57 2 rfl ?_
          refine ev_callVV (As := [.ref (G.2.1 + x1), .int x2]) cl_RX0_76 (ct_X0_readPart l hl G D R hR x0 hx0 x1 hx1 x2 M4) dd_X0_readProduct_58 hx0 (by omega) (Nat.le_of_ble_eq_true rfl) (Nat.le_of_ble_eq_true rfl) rfl rfl (fun M5 => ?_)
          refine ev_aload_n dd_X0_readProduct_61 0 rfl ?_
          refine ev_iload dd_X0_readProduct_62 4 rfl ?_
          refine ev_lv (lv' := [(0, .ref (G.2.1 + x0)), (1, .ref (G.2.1 + x1)), (2, .int x2), (3, .int x3)]) [0, 1, 2, 3] rfl ?_
          refine ev_callVV (As := [.int w1]) cl_RX0_57 (ct_X0_add l hl G x0 hx0 w1 M5) dd_X0_readProduct_64 hx0 (by omega) (Nat.le_of_ble_eq_true rfl) (Nat.le_of_ble_eq_true rfl) rfl rfl (fun M6 => ?_)
          refine ev_iinc (j := 3) (v := 1) (lv' := [(0, .ref (G.2.1 + x0)), (1, .ref (G.2.1 + x1)), (2, .int x2), (3, .int (x3 + 1))]) [1, 2, 3, 0] dd_X0_readProduct_67 rfl (by decide) (by decide) rfl ?_
          refine ev_goto 8 dd_X0_readProduct_70 (by decide) ?_
          exact ih _ _
        · refine ev_icmp_ne 47 dd_X0_readProduct_39 (by decide) ?_ ?_
          · refine ev_bipush (v := (-14)) dd_X0_readProduct_47 (by decide) ?_
            exact hk2 _ _
          · refine ev_bipush (v := (-13)) dd_X0_readProduct_42 (by decide) ?_
            refine ev_goto 49 dd_X0_readProduct_44 (by decide) ?_
            exact hk2 _ _
      · refine ev_icmp_eq 33 dd_X0_readProduct_21 (by decide) ?_ ?_
        · exact hk1 _
        · refine ev_aload_n dd_X0_readProduct_24 1 rfl ?_
          refine ev_getI gf_RX0_35 dd_X0_readProduct_25 hx1 (by decide) ?_
          refine ev_bipush (v := 47) dd_X0_readProduct_28 (by decide) ?_
          refine ev_icmp_ne 73 dd_X0_readProduct_30 (by decide) ?_ ?_
          · refine ev_lv (lv' := []) [] rfl ?_
            exact hK73 _
          · exact hk1 _
set_option maxHeartbeats 1000000 in
set_option maxRecDepth 20000 in
theorem ct_X0_readProduct (l : Launch) (hl : l.stackTraces = false) (G : zG) (D : Nat) (R : Nat → Nat → Int32 → zM → zO) (hR : ∀ (t : Nat) (ht : zsh t = 0) (a1 : Nat) (ha1 : zsh a1 = 8) (a2 : Int32) (M : zM), zMt l G Y_X0_readExpr D [.ref (G.2.1 + t), .ref (G.2.1 + a1), .int a2] M (R t a1 a2 M)) (t : Nat) (ht : zsh t = 0) (a1 : Nat) (ha1 : zsh a1 = 8) (a2 : Int32) (M : zM) : zMt l G Y_X0_readProduct (D + 15) [.ref (G.2.1 + t), .ref (G.2.1 + a1), .int a2] M (F_X0_readProduct R t a1 a2 M) := by
  refine zMt_of (by decide +kernel) (Nat.le_of_ble_eq_true rfl) ?_
  show zEv l G Y_X0_readProduct (D + 15) 0 0 [(0, .ref (G.2.1 + t)), (1, .ref (G.2.1 + a1)), (2, .int a2)] [] M (zbV (F_X0_readPart R t a1 a2 M) (fun M1 => F_X0_readProduct_L8 R t a1 a2 (fun  (M7 : zM) => zV M7) zN 0 M1))
  refine ev_aload_n dd_X0_readProduct_0 0 rfl ?_
  refine ev_aload_n dd_X0_readProduct_1 1 rfl ?_
  refine ev_iload_n dd_X0_readProduct_2 2 rfl ?_
  refine ev_callVV (As := [.ref (G.2.1 + a1), .int a2]) cl_RX0_76 (ct_X0_readPart l hl G D R hR t ht a1 ha1 a2 M) dd_X0_readProduct_3 ht (by omega) (Nat.le_of_ble_eq_true rfl) (Nat.le_of_ble_eq_true rfl) rfl rfl (fun M1 => ?_)
  refine ev_iconst (v := 0) dd_X0_readProduct_6 (by decide) ?_
  refine ev_istore_n (i := 3) (lv' := [(0, .ref (G.2.1 + t)), (1, .ref (G.2.1 + a1)), (2, .int a2), (3, .int 0)]) [1, 2, 3, 0] dd_X0_readProduct_7 rfl (by decide) rfl ?_
  refine ct_X0_readProduct_L8 l hl G D R hR t ht a1 ha1 a2 _ (fun M7 => ?_) zN _ _
  exact ev_vret dd_X0_readProduct_73 rfl (Nat.le_of_ble_eq_true rfl) rfl
/-! X0_readSum -/
theorem dd_X0_readSum_0 : decode Y_X0_readSum.2.1 0 = .ok (.aload_n 0, 1) := by decide +kernel
theorem dd_X0_readSum_1 : decode Y_X0_readSum.2.1 1 = .ok (.aload_n 1, 1) := by decide +kernel
theorem dd_X0_readSum_2 : decode Y_X0_readSum.2.1 2 = .ok (.iload_n 2, 1) := by decide +kernel
theorem dd_X0_readSum_3 : decode Y_X0_readSum.2.1 3 = .ok (.invokevirtual 73, 3) := by decide +kernel
theorem dd_X0_readSum_6 : decode Y_X0_readSum.2.1 6 = .ok (.iconst 0, 1) := by decide +kernel
theorem dd_X0_readSum_7 : decode Y_X0_readSum.2.1 7 = .ok (.istore_n 3, 1) := by decide +kernel
theorem dd_X0_readSum_8 : decode Y_X0_readSum.2.1 8 = .ok (.iload_n 3, 1) := by decide +kernel
theorem dd_X0_readSum_9 : decode Y_X0_readSum.2.1 9 = .ok (.sipush 700, 3) := by decide +kernel
theorem dd_X0_readSum_12 : decode Y_X0_readSum.2.1 12 = .ok (.if_icmp .ge 61, 3) := by decide +kernel
theorem dd_X0_readSum_15 : decode Y_X0_readSum.2.1 15 = .ok (.aload_n 1, 1) := by decide +kernel
theorem dd_X0_readSum_16 : decode Y_X0_readSum.2.1 16 = .ok (.getfield 35, 3) := by decide +kernel
theorem dd_X0_readSum_19 : decode Y_X0_readSum.2.1 19 = .ok (.bipush 43, 2) := by decide +kernel
theorem dd_X0_readSum_21 : decode Y_X0_readSum.2.1 21 = .ok (.if_icmp .eq 12, 3) := by decide +kernel
theorem dd_X0_readSum_24 : decode Y_X0_readSum.2.1 24 = .ok (.aload_n 1, 1) := by decide +kernel
theorem dd_X0_readSum_25 : decode Y_X0_readSum.2.1 25 = .ok (.getfield 35, 3) := by decide +kernel
theorem dd_X0_readSum_28 : decode Y_X0_readSum.2.1 28 = .ok (.bipush 45, 2) := by decide +kernel
theorem dd_X0_readSum_30 : decode Y_X0_readSum.2.1 30 = .ok (.if_icmp .ne 43, 3) := by decide +kernel
theorem dd_X0_readSum_33 : decode Y_X0_readSum.2.1 33 = .ok (.aload_n 1, 1) := by decide +kernel
theorem dd_X0_readSum_34 : decode Y_X0_readSum.2.1 34 = .ok (.getfield 35, 3) := by decide +kernel
theorem dd_X0_readSum_37 : decode Y_X0_readSum.2.1 37 = .ok (.bipush 43, 2) := by decide +kernel
theorem dd_X0_readSum_39 : decode Y_X0_readSum.2.1 39 = .ok (.if_icmp .ne 8, 3) := by decide +kernel
theorem dd_X0_readSum_42 : decode Y_X0_readSum.2.1 42 = .ok (.bipush (-11), 2) := by decide +kernel
theorem dd_X0_readSum_44 : decode Y_X0_readSum.2.1 44 = .ok (.goto 5, 3) := by decide +kernel
theorem dd_X0_readSum_47 : decode Y_X0_readSum.2.1 47 = .ok (.bipush (-12), 2) := by decide +kernel
theorem dd_X0_readSum_49 : decode Y_X0_readSum.2.1 49 = .ok (.istore 4, 2) := by decide +kernel
theorem dd_X0_readSum_51 : decode Y_X0_readSum.2.1 51 = .ok (.aload_n 1, 1) := by decide +kernel
theorem dd_X0_readSum_52 : decode Y_X0_readSum.2.1 52 = .ok (.invokevirtual 54, 3) := by decide +kernel
theorem dd_X0_readSum_55 : decode Y_X0_readSum.2.1 55 = .ok (.aload_n 0, 1) := by decide +kernel
theorem dd_X0_readSum_56 : decode Y_X0_readSum.2.1 56 = .ok (.aload_n 1, 1) := by decide +kernel
theorem dd_X0_readSum_57 : decode Y_X0_readSum.2.1 57 = .ok (.iload_n 2, 1) := by decide +kernel
theorem dd_X0_readSum_58 : decode Y_X0_readSum.2.1 58 = .ok (.invokevirtual 73, 3) := by decide +kernel
theorem dd_X0_readSum_61 : decode Y_X0_readSum.2.1 61 = .ok (.aload_n 0, 1) := by decide +kernel
theorem dd_X0_readSum_62 : decode Y_X0_readSum.2.1 62 = .ok (.iload 4, 2) := by decide +kernel
theorem dd_X0_readSum_64 : decode Y_X0_readSum.2.1 64 = .ok (.invokevirtual 57, 3) := by decide +kernel
theorem dd_X0_readSum_67 : decode Y_X0_readSum.2.1 67 = .ok (.iinc 3 1, 3) := by decide +kernel
theorem dd_X0_readSum_70 : decode Y_X0_readSum.2.1 70 = .ok (.goto (-62), 3) := by decide +kernel
theorem dd_X0_readSum_73 : decode Y_X0_readSum.2.1 73 = .ok (.return_, 1) := by decide +kernel
def F_X0_readSum_L8 (R : Nat → Nat → Int32 → zM → zO) (x0 : Nat) (x1 : Nat) (x2 : Int32) (K73 : zM → zO) : Nat → Int32 → zM → zO
  | 0, _, _ => none
  | n + 1, x3, M => zit (700 ≤ x3) (K73 M) (zjo (fun  (M2 : zM) => zjo (fun (w1 : Int32) (M3 : zM) => zbV (F_X8_step x1 M3) (fun M4 => zbV (F_X0_readProduct R x0 x1 x2 M4) (fun M5 => zbV (F_X0_add x0 w1 M5) (fun M6 => F_X0_readSum_L8 R x0 x1 x2 K73 n (x3 + 1) M6)))) (fun (k2 : Int32 → zM → zO) => zit ((M2 x1 3) = 43) (k2 (-11) M2) (k2 (-12) M2))) (fun (k1 : zM → zO) => zit ((M x1 3) = 43) (k1 M) (zit ((M x1 3) = 45) (k1 M) (K73 M))))
def F_X0_readSum (R : Nat → Nat → Int32 → zM → zO) (t : Nat) (a1 : Nat) (a2 : Int32) (M : zM) : zO := zbV (F_X0_readProduct R t a1 a2 M) (fun M1 => F_X0_readSum_L8 R t a1 a2 (fun  (M7 : zM) => zV M7) zN 0 M1)
set_option maxHeartbeats 1000000 in
set_option maxRecDepth 20000 in
theorem ct_X0_readSum_L8 (l : Launch) (hl : l.stackTraces = false) (G : zG) (D : Nat) (R : Nat → Nat → Int32 → zM → zO) (hR : ∀ (t : Nat) (ht : zsh t = 0) (a1 : Nat) (ha1 : zsh a1 = 8) (a2 : Int32) (M : zM), zMt l G Y_X0_readExpr D [.ref (G.2.1 + t), .ref (G.2.1 + a1), .int a2] M (R t a1 a2 M)) (x0 : Nat) (hx0 : zsh x0 = 0) (x1 : Nat) (hx1 : zsh x1 = 8) (x2 : Int32) (K73 : zM → zO) (hK73 : ∀  (M : zM), zEv l G Y_X0_readSum (D + 16) 0 73 [] [] M (K73 M)) : ∀ (n : Nat) (x3 : Int32) (M : zM), zEv l G Y_X0_readSum (D + 16) 0 8 [(0, .ref (G.2.1 + x0)), (1, .ref (G.2.1 + x1)), (2, .int x2), (3, .int x3)] [] M (F_X0_readSum_L8 R x0 x1 x2 K73 n x3 M) := by
  intro n
  induction n with
  | zero => intro x3 M; exact ev_none
  | succ n ih =>
    intro x3 M
    show zEv l G Y_X0_readSum (D + 16) 0 8 [(0, .ref (G.2.1 + x0)), (1, .ref (G.2.1 + x1)), (2, .int x2), (3, .int x3)] [] M (zit (700 ≤ x3) (K73 M) (zjo (fun  (M2 : zM) => zjo (fun (w1 : Int32) (M3 : zM) => zbV (F_X8_step x1 M3) (fun M4 => zbV (F_X0_readProduct R x0 x1 x2 M4) (fun M5 => zbV (F_X0_add x0 w1 M5) (fun M6 => F_X0_readSum_L8 R x0 x1 x2 K73 n (x3 + 1) M6)))) (fun (k2 : Int32 → zM → zO) => zit ((M2 x1 3) = 43) (k2 (-11) M2) (k2 (-12) M2))) (fun (k1 : zM → zO) => zit ((M x1 3) = 43) (k1 M) (zit ((M x1 3) = 45) (k1 M) (K73 M)))))
    refine ev_iload_n dd_X0_readSum_8 3 rfl ?_
    refine ev_sipush (v := 700) dd_X0_readSum_9 (by decide) ?_
    refine ev_icmp_ge 73 dd_X0_readSum_12 (by decide) ?_ ?_
    · refine ev_lv (lv' := []) [] rfl ?_
      exact hK73 _
    · refine ev_aload_n dd_X0_readSum_15 1 rfl ?_
      refine ev_getI gf_RX0_35 dd_X0_readSum_16 hx1 (by decide) ?_
      refine ev_bipush (v := 43) dd_X0_readSum_19 (by decide) ?_
      refine ev_jo (fun (k1 : zM → zO) => ∀  (M2 : zM), zEv l G Y_X0_readSum (D + 16) 0 33 [(0, .ref (G.2.1 + x0)), (1, .ref (G.2.1 + x1)), (2, .int x2), (3, .int x3)] [] M2 (k1 M2)) ?_ (fun k1 hk1 => ?_)
      · intro M2
        refine ev_aload_n dd_X0_readSum_33 1 rfl ?_
        refine ev_getI gf_RX0_35 dd_X0_readSum_34 hx1 (by decide) ?_
        refine ev_bipush (v := 43) dd_X0_readSum_37 (by decide) ?_
        refine ev_jo (fun (k2 : Int32 → zM → zO) => ∀ (w1 : Int32) (M3 : zM), zEv l G Y_X0_readSum (D + 16) 0 49 [(0, .ref (G.2.1 + x0)), (1, .ref (G.2.1 + x1)), (2, .int x2), (3, .int x3)] [.int w1] M3 (k2 w1 M3)) ?_ (fun k2 hk2 => ?_)
        · intro w1 M3
          refine ev_istore (i := 4) (lv' := [(0, .ref (G.2.1 + x0)), (1, .ref (G.2.1 + x1)), (2, .int x2), (3, .int x3), (4, .int w1)]) [1, 2, 3, 4, 0] dd_X0_readSum_49 (by decide) rfl ?_
          refine ev_aload_n dd_X0_readSum_51 1 rfl ?_
          refine ev_callVV (As := []) cl_RX0_54 (ct_X8_step l hl G x1 hx1 M3) dd_X0_readSum_52 hx1 (by omega) (Nat.le_of_ble_eq_true rfl) (Nat.le_of_ble_eq_true rfl) rfl rfl (fun M4 => ?_)
          refine ev_aload_n dd_X0_readSum_55 0 rfl ?_
          refine ev_aload_n dd_X0_readSum_56 1 rfl ?_
          refine ev_iload_n dd_X0_readSum_57 2 rfl ?_
          refine ev_callVV (As := [.ref (G.2.1 + x1), .int x2]) cl_RX0_73 (ct_X0_readProduct l hl G D R hR x0 hx0 x1 hx1 x2 M4) dd_X0_readSum_58 hx0 (by omega) (Nat.le_of_ble_eq_true rfl) (Nat.le_of_ble_eq_true rfl) rfl rfl (fun M5 => ?_)
          refine ev_aload_n dd_X0_readSum_61 0 rfl ?_
          refine ev_iload dd_X0_readSum_62 4 rfl ?_
          refine ev_lv (lv' := [(0, .ref (G.2.1 + x0)), (1, .ref (G.2.1 + x1)), (2, .int x2), (3, .int x3)]) [0, 1, 2, 3] rfl ?_
          refine ev_callVV (As := [.int w1]) cl_RX0_57 (ct_X0_add l hl G x0 hx0 w1 M5) dd_X0_readSum_64 hx0 (by omega) (Nat.le_of_ble_eq_true rfl) (Nat.le_of_ble_eq_true rfl) rfl rfl (fun M6 => ?_)
          refine ev_iinc (j := 3) (v := 1) (lv' := [(0, .ref (G.2.1 + x0)), (1, .ref (G.2.1 + x1)), (2, .int x2), (3, .int (x3 + 1))]) [1, 2, 3, 0] dd_X0_readSum_67 rfl (by decide) (by decide) rfl ?_
          refine ev_goto 8 dd_X0_readSum_70 (by decide) ?_
          exact ih _ _
        · refine ev_icmp_ne 47 dd_X0_readSum_39 (by decide) ?_ ?_
          · refine ev_bipush (v := (-12)) dd_X0_readSum_47 (by decide) ?_
            exact hk2 _ _
          · refine ev_bipush (v := (-11)) dd_X0_readSum_42 (by decide) ?_
            refine ev_goto 49 dd_X0_readSum_44 (by decide) ?_
            exact hk2 _ _
      · refine ev_icmp_eq 33 dd_X0_readSum_21 (by decide) ?_ ?_
        · exact hk1 _
        · refine ev_aload_n dd_X0_readSum_24 1 rfl ?_
          refine ev_getI gf_RX0_35 dd_X0_readSum_25 hx1 (by decide) ?_
          refine ev_bipush (v := 45) dd_X0_readSum_28 (by decide) ?_
          refine ev_icmp_ne 73 dd_X0_readSum_30 (by decide) ?_ ?_
          · refine ev_lv (lv' := []) [] rfl ?_
            exact hK73 _
          · exact hk1 _
set_option maxHeartbeats 1000000 in
set_option maxRecDepth 20000 in
theorem ct_X0_readSum (l : Launch) (hl : l.stackTraces = false) (G : zG) (D : Nat) (R : Nat → Nat → Int32 → zM → zO) (hR : ∀ (t : Nat) (ht : zsh t = 0) (a1 : Nat) (ha1 : zsh a1 = 8) (a2 : Int32) (M : zM), zMt l G Y_X0_readExpr D [.ref (G.2.1 + t), .ref (G.2.1 + a1), .int a2] M (R t a1 a2 M)) (t : Nat) (ht : zsh t = 0) (a1 : Nat) (ha1 : zsh a1 = 8) (a2 : Int32) (M : zM) : zMt l G Y_X0_readSum (D + 16) [.ref (G.2.1 + t), .ref (G.2.1 + a1), .int a2] M (F_X0_readSum R t a1 a2 M) := by
  refine zMt_of (by decide +kernel) (Nat.le_of_ble_eq_true rfl) ?_
  show zEv l G Y_X0_readSum (D + 16) 0 0 [(0, .ref (G.2.1 + t)), (1, .ref (G.2.1 + a1)), (2, .int a2)] [] M (zbV (F_X0_readProduct R t a1 a2 M) (fun M1 => F_X0_readSum_L8 R t a1 a2 (fun  (M7 : zM) => zV M7) zN 0 M1))
  refine ev_aload_n dd_X0_readSum_0 0 rfl ?_
  refine ev_aload_n dd_X0_readSum_1 1 rfl ?_
  refine ev_iload_n dd_X0_readSum_2 2 rfl ?_
  refine ev_callVV (As := [.ref (G.2.1 + a1), .int a2]) cl_RX0_73 (ct_X0_readProduct l hl G D R hR t ht a1 ha1 a2 M) dd_X0_readSum_3 ht (by omega) (Nat.le_of_ble_eq_true rfl) (Nat.le_of_ble_eq_true rfl) rfl rfl (fun M1 => ?_)
  refine ev_iconst (v := 0) dd_X0_readSum_6 (by decide) ?_
  refine ev_istore_n (i := 3) (lv' := [(0, .ref (G.2.1 + t)), (1, .ref (G.2.1 + a1)), (2, .int a2), (3, .int 0)]) [1, 2, 3, 0] dd_X0_readSum_7 rfl (by decide) rfl ?_
  refine ct_X0_readSum_L8 l hl G D R hR t ht a1 ha1 a2 _ (fun M7 => ?_) zN _ _
  exact ev_vret dd_X0_readSum_73 rfl (Nat.le_of_ble_eq_true rfl) rfl
/-! X0_readTest -/
theorem dd_X0_readTest_0 : decode Y_X0_readTest.2.1 0 = .ok (.aload_n 0, 1) := by decide +kernel
theorem dd_X0_readTest_1 : decode Y_X0_readTest.2.1 1 = .ok (.aload_n 1, 1) := by decide +kernel
theorem dd_X0_readTest_2 : decode Y_X0_readTest.2.1 2 = .ok (.iload_n 2, 1) := by decide +kernel
theorem dd_X0_readTest_3 : decode Y_X0_readTest.2.1 3 = .ok (.invokevirtual 70, 3) := by decide +kernel
theorem dd_X0_readTest_6 : decode Y_X0_readTest.2.1 6 = .ok (.aload_n 1, 1) := by decide +kernel
theorem dd_X0_readTest_7 : decode Y_X0_readTest.2.1 7 = .ok (.getfield 35, 3) := by decide +kernel
theorem dd_X0_readTest_10 : decode Y_X0_readTest.2.1 10 = .ok (.bipush 60, 2) := by decide +kernel
theorem dd_X0_readTest_12 : decode Y_X0_readTest.2.1 12 = .ok (.if_icmp .ne 8, 3) := by decide +kernel
theorem dd_X0_readTest_15 : decode Y_X0_readTest.2.1 15 = .ok (.bipush (-15), 2) := by decide +kernel
theorem dd_X0_readTest_17 : decode Y_X0_readTest.2.1 17 = .ok (.goto 5, 3) := by decide +kernel
theorem dd_X0_readTest_20 : decode Y_X0_readTest.2.1 20 = .ok (.bipush (-16), 2) := by decide +kernel
theorem dd_X0_readTest_22 : decode Y_X0_readTest.2.1 22 = .ok (.istore_n 3, 1) := by decide +kernel
theorem dd_X0_readTest_23 : decode Y_X0_readTest.2.1 23 = .ok (.aload_n 1, 1) := by decide +kernel
theorem dd_X0_readTest_24 : decode Y_X0_readTest.2.1 24 = .ok (.getfield 35, 3) := by decide +kernel
theorem dd_X0_readTest_27 : decode Y_X0_readTest.2.1 27 = .ok (.bipush 60, 2) := by decide +kernel
theorem dd_X0_readTest_29 : decode Y_X0_readTest.2.1 29 = .ok (.if_icmp .eq 12, 3) := by decide +kernel
theorem dd_X0_readTest_32 : decode Y_X0_readTest.2.1 32 = .ok (.aload_n 1, 1) := by decide +kernel
theorem dd_X0_readTest_33 : decode Y_X0_readTest.2.1 33 = .ok (.getfield 35, 3) := by decide +kernel
theorem dd_X0_readTest_36 : decode Y_X0_readTest.2.1 36 = .ok (.bipush 61, 2) := by decide +kernel
theorem dd_X0_readTest_38 : decode Y_X0_readTest.2.1 38 = .ok (.if_icmp .ne 18, 3) := by decide +kernel
theorem dd_X0_readTest_41 : decode Y_X0_readTest.2.1 41 = .ok (.aload_n 1, 1) := by decide +kernel
theorem dd_X0_readTest_42 : decode Y_X0_readTest.2.1 42 = .ok (.invokevirtual 54, 3) := by decide +kernel
theorem dd_X0_readTest_45 : decode Y_X0_readTest.2.1 45 = .ok (.aload_n 0, 1) := by decide +kernel
theorem dd_X0_readTest_46 : decode Y_X0_readTest.2.1 46 = .ok (.aload_n 1, 1) := by decide +kernel
theorem dd_X0_readTest_47 : decode Y_X0_readTest.2.1 47 = .ok (.iload_n 2, 1) := by decide +kernel
theorem dd_X0_readTest_48 : decode Y_X0_readTest.2.1 48 = .ok (.invokevirtual 70, 3) := by decide +kernel
theorem dd_X0_readTest_51 : decode Y_X0_readTest.2.1 51 = .ok (.aload_n 0, 1) := by decide +kernel
theorem dd_X0_readTest_52 : decode Y_X0_readTest.2.1 52 = .ok (.iload_n 3, 1) := by decide +kernel
theorem dd_X0_readTest_53 : decode Y_X0_readTest.2.1 53 = .ok (.invokevirtual 57, 3) := by decide +kernel
theorem dd_X0_readTest_56 : decode Y_X0_readTest.2.1 56 = .ok (.return_, 1) := by decide +kernel
def F_X0_readTest (R : Nat → Nat → Int32 → zM → zO) (t : Nat) (a1 : Nat) (a2 : Int32) (M : zM) : zO := zbV (F_X0_readSum R t a1 a2 M) (fun M1 => zjo (fun (w1 : Int32) (M2 : zM) => zjo (fun  (M7 : zM) => zV M7) (fun (k2 : zM → zO) => zjo (fun  (M3 : zM) => zbV (F_X8_step a1 M3) (fun M4 => zbV (F_X0_readSum R t a1 a2 M4) (fun M5 => zbV (F_X0_add t w1 M5) (fun M6 => k2 M6)))) (fun (k3 : zM → zO) => zit ((M2 a1 3) = 60) (k3 M2) (zit ((M2 a1 3) = 61) (k3 M2) (k2 M2))))) (fun (k1 : Int32 → zM → zO) => zit ((M1 a1 3) = 60) (k1 (-15) M1) (k1 (-16) M1)))
set_option maxHeartbeats 1000000 in
set_option maxRecDepth 20000 in
theorem ct_X0_readTest (l : Launch) (hl : l.stackTraces = false) (G : zG) (D : Nat) (R : Nat → Nat → Int32 → zM → zO) (hR : ∀ (t : Nat) (ht : zsh t = 0) (a1 : Nat) (ha1 : zsh a1 = 8) (a2 : Int32) (M : zM), zMt l G Y_X0_readExpr D [.ref (G.2.1 + t), .ref (G.2.1 + a1), .int a2] M (R t a1 a2 M)) (t : Nat) (ht : zsh t = 0) (a1 : Nat) (ha1 : zsh a1 = 8) (a2 : Int32) (M : zM) : zMt l G Y_X0_readTest (D + 17) [.ref (G.2.1 + t), .ref (G.2.1 + a1), .int a2] M (F_X0_readTest R t a1 a2 M) := by
  refine zMt_of (by decide +kernel) (Nat.le_of_ble_eq_true rfl) ?_
  show zEv l G Y_X0_readTest (D + 17) 0 0 [(0, .ref (G.2.1 + t)), (1, .ref (G.2.1 + a1)), (2, .int a2)] [] M (zbV (F_X0_readSum R t a1 a2 M) (fun M1 => zjo (fun (w1 : Int32) (M2 : zM) => zjo (fun  (M7 : zM) => zV M7) (fun (k2 : zM → zO) => zjo (fun  (M3 : zM) => zbV (F_X8_step a1 M3) (fun M4 => zbV (F_X0_readSum R t a1 a2 M4) (fun M5 => zbV (F_X0_add t w1 M5) (fun M6 => k2 M6)))) (fun (k3 : zM → zO) => zit ((M2 a1 3) = 60) (k3 M2) (zit ((M2 a1 3) = 61) (k3 M2) (k2 M2))))) (fun (k1 : Int32 → zM → zO) => zit ((M1 a1 3) = 60) (k1 (-15) M1) (k1 (-16) M1))))
  refine ev_aload_n dd_X0_readTest_0 0 rfl ?_
  refine ev_aload_n dd_X0_readTest_1 1 rfl ?_
  refine ev_iload_n dd_X0_readTest_2 2 rfl ?_
  refine ev_callVV (As := [.ref (G.2.1 + a1), .int a2]) cl_RX0_70 (ct_X0_readSum l hl G D R hR t ht a1 ha1 a2 M) dd_X0_readTest_3 ht (by omega) (Nat.le_of_ble_eq_true rfl) (Nat.le_of_ble_eq_true rfl) rfl rfl (fun M1 => ?_)
  refine ev_aload_n dd_X0_readTest_6 1 rfl ?_
  refine ev_getI gf_RX0_35 dd_X0_readTest_7 ha1 (by decide) ?_
  refine ev_bipush (v := 60) dd_X0_readTest_10 (by decide) ?_
  refine ev_jo (fun (k1 : Int32 → zM → zO) => ∀ (w1 : Int32) (M2 : zM), zEv l G Y_X0_readTest (D + 17) 0 22 [(0, .ref (G.2.1 + t)), (1, .ref (G.2.1 + a1)), (2, .int a2)] [.int w1] M2 (k1 w1 M2)) ?_ (fun k1 hk1 => ?_)
  · intro w1 M2
    refine ev_istore_n (i := 3) (lv' := [(0, .ref (G.2.1 + t)), (1, .ref (G.2.1 + a1)), (2, .int a2), (3, .int w1)]) [1, 2, 3, 0] dd_X0_readTest_22 rfl (by decide) rfl ?_
    refine ev_aload_n dd_X0_readTest_23 1 rfl ?_
    refine ev_getI gf_RX0_35 dd_X0_readTest_24 ha1 (by decide) ?_
    refine ev_bipush (v := 60) dd_X0_readTest_27 (by decide) ?_
    refine ev_jo (fun (k2 : zM → zO) => ∀  (M7 : zM), zEv l G Y_X0_readTest (D + 17) 0 56 [] [] M7 (k2 M7)) ?_ (fun k2 hk2 => ?_)
    · intro M7
      exact ev_vret dd_X0_readTest_56 rfl (Nat.le_of_ble_eq_true rfl) rfl
    · refine ev_jo (fun (k3 : zM → zO) => ∀  (M3 : zM), zEv l G Y_X0_readTest (D + 17) 0 41 [(0, .ref (G.2.1 + t)), (1, .ref (G.2.1 + a1)), (2, .int a2), (3, .int w1)] [] M3 (k3 M3)) ?_ (fun k3 hk3 => ?_)
      · intro M3
        refine ev_aload_n dd_X0_readTest_41 1 rfl ?_
        refine ev_callVV (As := []) cl_RX0_54 (ct_X8_step l hl G a1 ha1 M3) dd_X0_readTest_42 ha1 (by omega) (Nat.le_of_ble_eq_true rfl) (Nat.le_of_ble_eq_true rfl) rfl rfl (fun M4 => ?_)
        refine ev_aload_n dd_X0_readTest_45 0 rfl ?_
        refine ev_aload_n dd_X0_readTest_46 1 rfl ?_
        refine ev_lv (lv' := [(0, .ref (G.2.1 + t)), (2, .int a2), (3, .int w1)]) [0, 2, 3] rfl ?_
        refine ev_iload_n dd_X0_readTest_47 1 rfl ?_
        refine ev_lv (lv' := [(0, .ref (G.2.1 + t)), (3, .int w1)]) [0, 2] rfl ?_
        refine ev_callVV (As := [.ref (G.2.1 + a1), .int a2]) cl_RX0_70 (ct_X0_readSum l hl G D R hR t ht a1 ha1 a2 M4) dd_X0_readTest_48 ht (by omega) (Nat.le_of_ble_eq_true rfl) (Nat.le_of_ble_eq_true rfl) rfl rfl (fun M5 => ?_)
        refine ev_aload_n dd_X0_readTest_51 0 rfl ?_
        refine ev_lv (lv' := [(3, .int w1)]) [1] rfl ?_
        refine ev_iload_n dd_X0_readTest_52 0 rfl ?_
        refine ev_lv (lv' := []) [] rfl ?_
        refine ev_callVV (As := [.int w1]) cl_RX0_57 (ct_X0_add l hl G t ht w1 M5) dd_X0_readTest_53 ht (by omega) (Nat.le_of_ble_eq_true rfl) (Nat.le_of_ble_eq_true rfl) rfl rfl (fun M6 => ?_)
        exact hk2 _
      · refine ev_icmp_eq 41 dd_X0_readTest_29 (by decide) ?_ ?_
        · exact hk3 _
        · refine ev_aload_n dd_X0_readTest_32 1 rfl ?_
          refine ev_getI gf_RX0_35 dd_X0_readTest_33 ha1 (by decide) ?_
          refine ev_bipush (v := 61) dd_X0_readTest_36 (by decide) ?_
          refine ev_icmp_ne 56 dd_X0_readTest_38 (by decide) ?_ ?_
          · refine ev_lv (lv' := []) [] rfl ?_
            exact hk2 _
          · exact hk3 _
  · refine ev_icmp_ne 20 dd_X0_readTest_12 (by decide) ?_ ?_
    · refine ev_bipush (v := (-16)) dd_X0_readTest_20 (by decide) ?_
      exact hk1 _ _
    · refine ev_bipush (v := (-15)) dd_X0_readTest_15 (by decide) ?_
      refine ev_goto 22 dd_X0_readTest_17 (by decide) ?_
      exact hk1 _ _
/-! X0_readNot -/
theorem dd_X0_readNot_0 : decode Y_X0_readNot.2.1 0 = .ok (.iconst 0, 1) := by decide +kernel
theorem dd_X0_readNot_1 : decode Y_X0_readNot.2.1 1 = .ok (.istore_n 3, 1) := by decide +kernel
theorem dd_X0_readNot_2 : decode Y_X0_readNot.2.1 2 = .ok (.iconst 0, 1) := by decide +kernel
theorem dd_X0_readNot_3 : decode Y_X0_readNot.2.1 3 = .ok (.istore 4, 2) := by decide +kernel
theorem dd_X0_readNot_5 : decode Y_X0_readNot.2.1 5 = .ok (.iload 4, 2) := by decide +kernel
theorem dd_X0_readNot_7 : decode Y_X0_readNot.2.1 7 = .ok (.sipush 700, 3) := by decide +kernel
theorem dd_X0_readNot_10 : decode Y_X0_readNot.2.1 10 = .ok (.if_icmp .ge 36, 3) := by decide +kernel
theorem dd_X0_readNot_13 : decode Y_X0_readNot.2.1 13 = .ok (.aload_n 1, 1) := by decide +kernel
theorem dd_X0_readNot_14 : decode Y_X0_readNot.2.1 14 = .ok (.ldc 65, 2) := by decide +kernel
theorem dd_X0_readNot_16 : decode Y_X0_readNot.2.1 16 = .ok (.invokevirtual 50, 3) := by decide +kernel
theorem dd_X0_readNot_19 : decode Y_X0_readNot.2.1 19 = .ok (.ifCond .eq 27, 3) := by decide +kernel
theorem dd_X0_readNot_22 : decode Y_X0_readNot.2.1 22 = .ok (.iload_n 3, 1) := by decide +kernel
theorem dd_X0_readNot_23 : decode Y_X0_readNot.2.1 23 = .ok (.bipush 6, 2) := by decide +kernel
theorem dd_X0_readNot_25 : decode Y_X0_readNot.2.1 25 = .ok (.if_icmp .lt 8, 3) := by decide +kernel
theorem dd_X0_readNot_28 : decode Y_X0_readNot.2.1 28 = .ok (.aload_n 1, 1) := by decide +kernel
theorem dd_X0_readNot_29 : decode Y_X0_readNot.2.1 29 = .ok (.iconst 2, 1) := by decide +kernel
theorem dd_X0_readNot_30 : decode Y_X0_readNot.2.1 30 = .ok (.invokevirtual 40, 3) := by decide +kernel
theorem dd_X0_readNot_33 : decode Y_X0_readNot.2.1 33 = .ok (.aload_n 1, 1) := by decide +kernel
theorem dd_X0_readNot_34 : decode Y_X0_readNot.2.1 34 = .ok (.invokevirtual 54, 3) := by decide +kernel
theorem dd_X0_readNot_37 : decode Y_X0_readNot.2.1 37 = .ok (.iinc 3 1, 3) := by decide +kernel
theorem dd_X0_readNot_40 : decode Y_X0_readNot.2.1 40 = .ok (.iinc 4 1, 3) := by decide +kernel
theorem dd_X0_readNot_43 : decode Y_X0_readNot.2.1 43 = .ok (.goto (-38), 3) := by decide +kernel
theorem dd_X0_readNot_46 : decode Y_X0_readNot.2.1 46 = .ok (.aload_n 0, 1) := by decide +kernel
theorem dd_X0_readNot_47 : decode Y_X0_readNot.2.1 47 = .ok (.aload_n 1, 1) := by decide +kernel
theorem dd_X0_readNot_48 : decode Y_X0_readNot.2.1 48 = .ok (.iload_n 2, 1) := by decide +kernel
theorem dd_X0_readNot_49 : decode Y_X0_readNot.2.1 49 = .ok (.invokevirtual 67, 3) := by decide +kernel
theorem dd_X0_readNot_52 : decode Y_X0_readNot.2.1 52 = .ok (.iconst 0, 1) := by decide +kernel
theorem dd_X0_readNot_53 : decode Y_X0_readNot.2.1 53 = .ok (.istore 4, 2) := by decide +kernel
theorem dd_X0_readNot_55 : decode Y_X0_readNot.2.1 55 = .ok (.iload 4, 2) := by decide +kernel
theorem dd_X0_readNot_57 : decode Y_X0_readNot.2.1 57 = .ok (.iload_n 3, 1) := by decide +kernel
theorem dd_X0_readNot_58 : decode Y_X0_readNot.2.1 58 = .ok (.if_icmp .ge 15, 3) := by decide +kernel
theorem dd_X0_readNot_61 : decode Y_X0_readNot.2.1 61 = .ok (.aload_n 0, 1) := by decide +kernel
theorem dd_X0_readNot_62 : decode Y_X0_readNot.2.1 62 = .ok (.bipush (-10), 2) := by decide +kernel
theorem dd_X0_readNot_64 : decode Y_X0_readNot.2.1 64 = .ok (.invokevirtual 57, 3) := by decide +kernel
theorem dd_X0_readNot_67 : decode Y_X0_readNot.2.1 67 = .ok (.iinc 4 1, 3) := by decide +kernel
theorem dd_X0_readNot_70 : decode Y_X0_readNot.2.1 70 = .ok (.goto (-15), 3) := by decide +kernel
theorem dd_X0_readNot_73 : decode Y_X0_readNot.2.1 73 = .ok (.return_, 1) := by decide +kernel
def F_X0_readNot_L5 (R : Nat → Nat → Int32 → zM → zO) (x0 : Nat) (x1 : Nat) (x2 : Int32) (K46 : Int32 → zM → zO) : Nat → Int32 → Int32 → zM → zO
  | 0, _, _, _ => none
  | n + 1, x3, x4, M => zit (700 ≤ x4) (K46 x3 M) (zbI (F_X8_isWord x1 9 M) (fun r1 M1 => zit (r1 = 0) (K46 x3 M1) (zjo (fun  (M3 : zM) => zbV (F_X8_step x1 M3) (fun M4 => F_X0_readNot_L5 R x0 x1 x2 K46 n (x3 + 1) (x4 + 1) M4)) (fun (k1 : zM → zO) => zit (x3 < 6) (k1 M1) (zbV (F_X8_refuse x1 2 M1) (fun M2 => k1 M2))))))
def F_X0_readNot_L55 (R : Nat → Nat → Int32 → zM → zO) (x0 : Nat) (x3 : Int32) (K73 : zM → zO) : Nat → Int32 → zM → zO
  | 0, _, _ => none
  | n + 1, x4, M => zit (x3 ≤ x4) (K73 M) (zbV (F_X0_add x0 (-10) M) (fun M7 => F_X0_readNot_L55 R x0 x3 K73 n (x4 + 1) M7))
def F_X0_readNot (R : Nat → Nat → Int32 → zM → zO) (t : Nat) (a1 : Nat) (a2 : Int32) (M : zM) : zO := F_X0_readNot_L5 R t a1 a2 (fun (y1 : Int32) (M5 : zM) => zbV (F_X0_readTest R t a1 a2 M5) (fun M6 => F_X0_readNot_L55 R t y1 (fun  (M8 : zM) => zV M8) zN 0 M6)) zN 0 0 M
set_option maxHeartbeats 1000000 in
set_option maxRecDepth 20000 in
theorem ct_X0_readNot_L5 (l : Launch) (hl : l.stackTraces = false) (G : zG) (D : Nat) (R : Nat → Nat → Int32 → zM → zO) (hR : ∀ (t : Nat) (ht : zsh t = 0) (a1 : Nat) (ha1 : zsh a1 = 8) (a2 : Int32) (M : zM), zMt l G Y_X0_readExpr D [.ref (G.2.1 + t), .ref (G.2.1 + a1), .int a2] M (R t a1 a2 M)) (x0 : Nat) (hx0 : zsh x0 = 0) (x1 : Nat) (hx1 : zsh x1 = 8) (x2 : Int32) (K46 : Int32 → zM → zO) (hK46 : ∀ (x3 : Int32) (M : zM), zEv l G Y_X0_readNot (D + 18) 0 46 [(0, .ref (G.2.1 + x0)), (1, .ref (G.2.1 + x1)), (2, .int x2), (3, .int x3)] [] M (K46 x3 M)) : ∀ (n : Nat) (x3 : Int32) (x4 : Int32) (M : zM), zEv l G Y_X0_readNot (D + 18) 0 5 [(0, .ref (G.2.1 + x0)), (1, .ref (G.2.1 + x1)), (2, .int x2), (3, .int x3), (4, .int x4)] [] M (F_X0_readNot_L5 R x0 x1 x2 K46 n x3 x4 M) := by
  intro n
  induction n with
  | zero => intro x3 x4 M; exact ev_none
  | succ n ih =>
    intro x3 x4 M
    show zEv l G Y_X0_readNot (D + 18) 0 5 [(0, .ref (G.2.1 + x0)), (1, .ref (G.2.1 + x1)), (2, .int x2), (3, .int x3), (4, .int x4)] [] M (zit (700 ≤ x4) (K46 x3 M) (zbI (F_X8_isWord x1 9 M) (fun r1 M1 => zit (r1 = 0) (K46 x3 M1) (zjo (fun  (M3 : zM) => zbV (F_X8_step x1 M3) (fun M4 => F_X0_readNot_L5 R x0 x1 x2 K46 n (x3 + 1) (x4 + 1) M4)) (fun (k1 : zM → zO) => zit (x3 < 6) (k1 M1) (zbV (F_X8_refuse x1 2 M1) (fun M2 => k1 M2)))))))
    refine ev_iload dd_X0_readNot_5 4 rfl ?_
    refine ev_sipush (v := 700) dd_X0_readNot_7 (by decide) ?_
    refine ev_icmp_ge 46 dd_X0_readNot_10 (by decide) ?_ ?_
    · refine ev_lv (lv' := [(0, .ref (G.2.1 + x0)), (1, .ref (G.2.1 + x1)), (2, .int x2), (3, .int x3)]) [0, 1, 2, 3] rfl ?_
      exact hK46 _ _
    · refine ev_aload_n dd_X0_readNot_13 1 rfl ?_
      refine ev_ldcs dd_X0_readNot_14 sr_RX0_65 ?_
      refine ev_callVI (As := [.ref (G.2.2.2.1 9)]) cl_RX0_50 (ct_X8_isWord l hl G x1 hx1 9 (by decide) M) dd_X0_readNot_16 hx1 (by omega) (Nat.le_of_ble_eq_true rfl) (Nat.le_of_ble_eq_true rfl) rfl rfl (fun r1 M1 => ?_)
      refine ev_if_eq 46 dd_X0_readNot_19 (by decide) ?_ ?_
      · refine ev_lv (lv' := [(0, .ref (G.2.1 + x0)), (1, .ref (G.2.1 + x1)), (2, .int x2), (3, .int x3)]) [0, 1, 2, 3] rfl ?_
        exact hK46 _ _
      · refine ev_iload_n dd_X0_readNot_22 3 rfl ?_
        refine ev_bipush (v := 6) dd_X0_readNot_23 (by decide) ?_
        refine ev_jo (fun (k1 : zM → zO) => ∀  (M3 : zM), zEv l G Y_X0_readNot (D + 18) 0 33 [(0, .ref (G.2.1 + x0)), (1, .ref (G.2.1 + x1)), (2, .int x2), (3, .int x3), (4, .int x4)] [] M3 (k1 M3)) ?_ (fun k1 hk1 => ?_)
        · intro M3
          refine ev_aload_n dd_X0_readNot_33 1 rfl ?_
          refine ev_callVV (As := []) cl_RX0_54 (ct_X8_step l hl G x1 hx1 M3) dd_X0_readNot_34 hx1 (by omega) (Nat.le_of_ble_eq_true rfl) (Nat.le_of_ble_eq_true rfl) rfl rfl (fun M4 => ?_)
          refine ev_iinc (j := 3) (v := 1) (lv' := [(0, .ref (G.2.1 + x0)), (1, .ref (G.2.1 + x1)), (2, .int x2), (3, .int (x3 + 1)), (4, .int x4)]) [1, 2, 3, 0, 4] dd_X0_readNot_37 rfl (by decide) (by decide) rfl ?_
          refine ev_iinc (j := 4) (v := 1) (lv' := [(0, .ref (G.2.1 + x0)), (1, .ref (G.2.1 + x1)), (2, .int x2), (3, .int (x3 + 1)), (4, .int (x4 + 1))]) [1, 2, 3, 4, 0] dd_X0_readNot_40 rfl (by decide) (by decide) rfl ?_
          refine ev_goto 5 dd_X0_readNot_43 (by decide) ?_
          exact ih _ _ _
        · refine ev_icmp_lt 33 dd_X0_readNot_25 (by decide) ?_ ?_
          · exact hk1 _
          · refine ev_aload_n dd_X0_readNot_28 1 rfl ?_
            refine ev_iconst (v := 2) dd_X0_readNot_29 (by decide) ?_
            refine ev_callVV (As := [.int 2]) cl_RX0_40 (ct_X8_refuse l hl G x1 hx1 2 M1) dd_X0_readNot_30 hx1 (by omega) (Nat.le_of_ble_eq_true rfl) (Nat.le_of_ble_eq_true rfl) rfl rfl (fun M2 => ?_)
            exact hk1 _
set_option maxHeartbeats 1000000 in
set_option maxRecDepth 20000 in
theorem ct_X0_readNot_L55 (l : Launch) (hl : l.stackTraces = false) (G : zG) (D : Nat) (R : Nat → Nat → Int32 → zM → zO) (hR : ∀ (t : Nat) (ht : zsh t = 0) (a1 : Nat) (ha1 : zsh a1 = 8) (a2 : Int32) (M : zM), zMt l G Y_X0_readExpr D [.ref (G.2.1 + t), .ref (G.2.1 + a1), .int a2] M (R t a1 a2 M)) (x0 : Nat) (hx0 : zsh x0 = 0) (x3 : Int32) (K73 : zM → zO) (hK73 : ∀  (M : zM), zEv l G Y_X0_readNot (D + 18) 0 73 [] [] M (K73 M)) : ∀ (n : Nat) (x4 : Int32) (M : zM), zEv l G Y_X0_readNot (D + 18) 0 55 [(0, .ref (G.2.1 + x0)), (3, .int x3), (4, .int x4)] [] M (F_X0_readNot_L55 R x0 x3 K73 n x4 M) := by
  intro n
  induction n with
  | zero => intro x4 M; exact ev_none
  | succ n ih =>
    intro x4 M
    show zEv l G Y_X0_readNot (D + 18) 0 55 [(0, .ref (G.2.1 + x0)), (3, .int x3), (4, .int x4)] [] M (zit (x3 ≤ x4) (K73 M) (zbV (F_X0_add x0 (-10) M) (fun M7 => F_X0_readNot_L55 R x0 x3 K73 n (x4 + 1) M7)))
    refine ev_iload dd_X0_readNot_55 2 rfl ?_
    refine ev_iload_n dd_X0_readNot_57 1 rfl ?_
    refine ev_icmp_ge 73 dd_X0_readNot_58 (by decide) ?_ ?_
    · refine ev_lv (lv' := []) [] rfl ?_
      exact hK73 _
    · refine ev_aload_n dd_X0_readNot_61 0 rfl ?_
      refine ev_bipush (v := (-10)) dd_X0_readNot_62 (by decide) ?_
      refine ev_callVV (As := [.int (-10)]) cl_RX0_57 (ct_X0_add l hl G x0 hx0 (-10) M) dd_X0_readNot_64 hx0 (by omega) (Nat.le_of_ble_eq_true rfl) (Nat.le_of_ble_eq_true rfl) rfl rfl (fun M7 => ?_)
      refine ev_iinc (j := 2) (v := 1) (lv' := [(0, .ref (G.2.1 + x0)), (3, .int x3), (4, .int (x4 + 1))]) [1, 2, 0] dd_X0_readNot_67 rfl (by decide) (by decide) rfl ?_
      refine ev_goto 55 dd_X0_readNot_70 (by decide) ?_
      exact ih _ _
set_option maxHeartbeats 1000000 in
set_option maxRecDepth 20000 in
theorem ct_X0_readNot (l : Launch) (hl : l.stackTraces = false) (G : zG) (D : Nat) (R : Nat → Nat → Int32 → zM → zO) (hR : ∀ (t : Nat) (ht : zsh t = 0) (a1 : Nat) (ha1 : zsh a1 = 8) (a2 : Int32) (M : zM), zMt l G Y_X0_readExpr D [.ref (G.2.1 + t), .ref (G.2.1 + a1), .int a2] M (R t a1 a2 M)) (t : Nat) (ht : zsh t = 0) (a1 : Nat) (ha1 : zsh a1 = 8) (a2 : Int32) (M : zM) : zMt l G Y_X0_readNot (D + 18) [.ref (G.2.1 + t), .ref (G.2.1 + a1), .int a2] M (F_X0_readNot R t a1 a2 M) := by
  refine zMt_of (by decide +kernel) (Nat.le_of_ble_eq_true rfl) ?_
  show zEv l G Y_X0_readNot (D + 18) 0 0 [(0, .ref (G.2.1 + t)), (1, .ref (G.2.1 + a1)), (2, .int a2)] [] M (F_X0_readNot_L5 R t a1 a2 (fun (y1 : Int32) (M5 : zM) => zbV (F_X0_readTest R t a1 a2 M5) (fun M6 => F_X0_readNot_L55 R t y1 (fun  (M8 : zM) => zV M8) zN 0 M6)) zN 0 0 M)
  refine ev_iconst (v := 0) dd_X0_readNot_0 (by decide) ?_
  refine ev_istore_n (i := 3) (lv' := [(0, .ref (G.2.1 + t)), (1, .ref (G.2.1 + a1)), (2, .int a2), (3, .int 0)]) [1, 2, 3, 0] dd_X0_readNot_1 rfl (by decide) rfl ?_
  refine ev_iconst (v := 0) dd_X0_readNot_2 (by decide) ?_
  refine ev_istore (i := 4) (lv' := [(0, .ref (G.2.1 + t)), (1, .ref (G.2.1 + a1)), (2, .int a2), (3, .int 0), (4, .int 0)]) [1, 2, 3, 4, 0] dd_X0_readNot_3 (by decide) rfl ?_
  refine ct_X0_readNot_L5 l hl G D R hR t ht a1 ha1 a2 _ (fun y1 M5 => ?_) zN _ _ _
  refine ev_aload_n dd_X0_readNot_46 0 rfl ?_
  refine ev_aload_n dd_X0_readNot_47 1 rfl ?_
  refine ev_lv (lv' := [(0, .ref (G.2.1 + t)), (2, .int a2), (3, .int y1)]) [0, 2, 3] rfl ?_
  refine ev_iload_n dd_X0_readNot_48 1 rfl ?_
  refine ev_lv (lv' := [(0, .ref (G.2.1 + t)), (3, .int y1)]) [0, 2] rfl ?_
  refine ev_callVV (As := [.ref (G.2.1 + a1), .int a2]) cl_RX0_67 (ct_X0_readTest l hl G D R hR t ht a1 ha1 a2 M5) dd_X0_readNot_49 ht (by omega) (Nat.le_of_ble_eq_true rfl) (Nat.le_of_ble_eq_true rfl) rfl rfl (fun M6 => ?_)
  refine ev_iconst (v := 0) dd_X0_readNot_52 (by decide) ?_
  refine ev_istore (i := 4) (lv' := [(0, .ref (G.2.1 + t)), (3, .int y1), (4, .int 0)]) [1, 2, 0] dd_X0_readNot_53 (by decide) rfl ?_
  refine ct_X0_readNot_L55 l hl G D R hR t ht y1 _ (fun M8 => ?_) zN _ _
  exact ev_vret dd_X0_readNot_73 rfl (Nat.le_of_ble_eq_true rfl) rfl
/-! X0_readAnd -/
theorem dd_X0_readAnd_0 : decode Y_X0_readAnd.2.1 0 = .ok (.aload_n 0, 1) := by decide +kernel
theorem dd_X0_readAnd_1 : decode Y_X0_readAnd.2.1 1 = .ok (.aload_n 1, 1) := by decide +kernel
theorem dd_X0_readAnd_2 : decode Y_X0_readAnd.2.1 2 = .ok (.iload_n 2, 1) := by decide +kernel
theorem dd_X0_readAnd_3 : decode Y_X0_readAnd.2.1 3 = .ok (.invokevirtual 60, 3) := by decide +kernel
theorem dd_X0_readAnd_6 : decode Y_X0_readAnd.2.1 6 = .ok (.iconst 0, 1) := by decide +kernel
theorem dd_X0_readAnd_7 : decode Y_X0_readAnd.2.1 7 = .ok (.istore_n 3, 1) := by decide +kernel
theorem dd_X0_readAnd_8 : decode Y_X0_readAnd.2.1 8 = .ok (.iload_n 3, 1) := by decide +kernel
theorem dd_X0_readAnd_9 : decode Y_X0_readAnd.2.1 9 = .ok (.sipush 700, 3) := by decide +kernel
theorem dd_X0_readAnd_12 : decode Y_X0_readAnd.2.1 12 = .ok (.if_icmp .ge 34, 3) := by decide +kernel
theorem dd_X0_readAnd_15 : decode Y_X0_readAnd.2.1 15 = .ok (.aload_n 1, 1) := by decide +kernel
theorem dd_X0_readAnd_16 : decode Y_X0_readAnd.2.1 16 = .ok (.ldc 63, 2) := by decide +kernel
theorem dd_X0_readAnd_18 : decode Y_X0_readAnd.2.1 18 = .ok (.invokevirtual 50, 3) := by decide +kernel
theorem dd_X0_readAnd_21 : decode Y_X0_readAnd.2.1 21 = .ok (.ifCond .eq 25, 3) := by decide +kernel
theorem dd_X0_readAnd_24 : decode Y_X0_readAnd.2.1 24 = .ok (.aload_n 1, 1) := by decide +kernel
theorem dd_X0_readAnd_25 : decode Y_X0_readAnd.2.1 25 = .ok (.invokevirtual 54, 3) := by decide +kernel
theorem dd_X0_readAnd_28 : decode Y_X0_readAnd.2.1 28 = .ok (.aload_n 0, 1) := by decide +kernel
theorem dd_X0_readAnd_29 : decode Y_X0_readAnd.2.1 29 = .ok (.aload_n 1, 1) := by decide +kernel
theorem dd_X0_readAnd_30 : decode Y_X0_readAnd.2.1 30 = .ok (.iload_n 2, 1) := by decide +kernel
theorem dd_X0_readAnd_31 : decode Y_X0_readAnd.2.1 31 = .ok (.invokevirtual 60, 3) := by decide +kernel
theorem dd_X0_readAnd_34 : decode Y_X0_readAnd.2.1 34 = .ok (.aload_n 0, 1) := by decide +kernel
theorem dd_X0_readAnd_35 : decode Y_X0_readAnd.2.1 35 = .ok (.bipush (-17), 2) := by decide +kernel
theorem dd_X0_readAnd_37 : decode Y_X0_readAnd.2.1 37 = .ok (.invokevirtual 57, 3) := by decide +kernel
theorem dd_X0_readAnd_40 : decode Y_X0_readAnd.2.1 40 = .ok (.iinc 3 1, 3) := by decide +kernel
theorem dd_X0_readAnd_43 : decode Y_X0_readAnd.2.1 43 = .ok (.goto (-35), 3) := by decide +kernel
theorem dd_X0_readAnd_46 : decode Y_X0_readAnd.2.1 46 = .ok (.return_, 1) := by decide +kernel
def F_X0_readAnd_L8 (R : Nat → Nat → Int32 → zM → zO) (x0 : Nat) (x1 : Nat) (x2 : Int32) (K46 : zM → zO) : Nat → Int32 → zM → zO
  | 0, _, _ => none
  | n + 1, x3, M => zit (700 ≤ x3) (K46 M) (zbI (F_X8_isWord x1 17 M) (fun r1 M2 => zit (r1 = 0) (K46 M2) (zbV (F_X8_step x1 M2) (fun M3 => zbV (F_X0_readNot R x0 x1 x2 M3) (fun M4 => zbV (F_X0_add x0 (-17) M4) (fun M5 => F_X0_readAnd_L8 R x0 x1 x2 K46 n (x3 + 1) M5))))))
def F_X0_readAnd (R : Nat → Nat → Int32 → zM → zO) (t : Nat) (a1 : Nat) (a2 : Int32) (M : zM) : zO := zbV (F_X0_readNot R t a1 a2 M) (fun M1 => F_X0_readAnd_L8 R t a1 a2 (fun  (M6 : zM) => zV M6) zN 0 M1)
set_option maxHeartbeats 1000000 in
set_option maxRecDepth 20000 in
theorem ct_X0_readAnd_L8 (l : Launch) (hl : l.stackTraces = false) (G : zG) (D : Nat) (R : Nat → Nat → Int32 → zM → zO) (hR : ∀ (t : Nat) (ht : zsh t = 0) (a1 : Nat) (ha1 : zsh a1 = 8) (a2 : Int32) (M : zM), zMt l G Y_X0_readExpr D [.ref (G.2.1 + t), .ref (G.2.1 + a1), .int a2] M (R t a1 a2 M)) (x0 : Nat) (hx0 : zsh x0 = 0) (x1 : Nat) (hx1 : zsh x1 = 8) (x2 : Int32) (K46 : zM → zO) (hK46 : ∀  (M : zM), zEv l G Y_X0_readAnd (D + 19) 0 46 [] [] M (K46 M)) : ∀ (n : Nat) (x3 : Int32) (M : zM), zEv l G Y_X0_readAnd (D + 19) 0 8 [(0, .ref (G.2.1 + x0)), (1, .ref (G.2.1 + x1)), (2, .int x2), (3, .int x3)] [] M (F_X0_readAnd_L8 R x0 x1 x2 K46 n x3 M) := by
  intro n
  induction n with
  | zero => intro x3 M; exact ev_none
  | succ n ih =>
    intro x3 M
    show zEv l G Y_X0_readAnd (D + 19) 0 8 [(0, .ref (G.2.1 + x0)), (1, .ref (G.2.1 + x1)), (2, .int x2), (3, .int x3)] [] M (zit (700 ≤ x3) (K46 M) (zbI (F_X8_isWord x1 17 M) (fun r1 M2 => zit (r1 = 0) (K46 M2) (zbV (F_X8_step x1 M2) (fun M3 => zbV (F_X0_readNot R x0 x1 x2 M3) (fun M4 => zbV (F_X0_add x0 (-17) M4) (fun M5 => F_X0_readAnd_L8 R x0 x1 x2 K46 n (x3 + 1) M5)))))))
    refine ev_iload_n dd_X0_readAnd_8 3 rfl ?_
    refine ev_sipush (v := 700) dd_X0_readAnd_9 (by decide) ?_
    refine ev_icmp_ge 46 dd_X0_readAnd_12 (by decide) ?_ ?_
    · refine ev_lv (lv' := []) [] rfl ?_
      exact hK46 _
    · refine ev_aload_n dd_X0_readAnd_15 1 rfl ?_
      refine ev_ldcs dd_X0_readAnd_16 sr_RX0_63 ?_
      refine ev_callVI (As := [.ref (G.2.2.2.1 17)]) cl_RX0_50 (ct_X8_isWord l hl G x1 hx1 17 (by decide) M) dd_X0_readAnd_18 hx1 (by omega) (Nat.le_of_ble_eq_true rfl) (Nat.le_of_ble_eq_true rfl) rfl rfl (fun r1 M2 => ?_)
      refine ev_if_eq 46 dd_X0_readAnd_21 (by decide) ?_ ?_
      · refine ev_lv (lv' := []) [] rfl ?_
        exact hK46 _
      · refine ev_aload_n dd_X0_readAnd_24 1 rfl ?_
        refine ev_callVV (As := []) cl_RX0_54 (ct_X8_step l hl G x1 hx1 M2) dd_X0_readAnd_25 hx1 (by omega) (Nat.le_of_ble_eq_true rfl) (Nat.le_of_ble_eq_true rfl) rfl rfl (fun M3 => ?_)
        refine ev_aload_n dd_X0_readAnd_28 0 rfl ?_
        refine ev_aload_n dd_X0_readAnd_29 1 rfl ?_
        refine ev_iload_n dd_X0_readAnd_30 2 rfl ?_
        refine ev_callVV (As := [.ref (G.2.1 + x1), .int x2]) cl_RX0_60 (ct_X0_readNot l hl G D R hR x0 hx0 x1 hx1 x2 M3) dd_X0_readAnd_31 hx0 (by omega) (Nat.le_of_ble_eq_true rfl) (Nat.le_of_ble_eq_true rfl) rfl rfl (fun M4 => ?_)
        refine ev_aload_n dd_X0_readAnd_34 0 rfl ?_
        refine ev_bipush (v := (-17)) dd_X0_readAnd_35 (by decide) ?_
        refine ev_callVV (As := [.int (-17)]) cl_RX0_57 (ct_X0_add l hl G x0 hx0 (-17) M4) dd_X0_readAnd_37 hx0 (by omega) (Nat.le_of_ble_eq_true rfl) (Nat.le_of_ble_eq_true rfl) rfl rfl (fun M5 => ?_)
        refine ev_iinc (j := 3) (v := 1) (lv' := [(0, .ref (G.2.1 + x0)), (1, .ref (G.2.1 + x1)), (2, .int x2), (3, .int (x3 + 1))]) [1, 2, 3, 0] dd_X0_readAnd_40 rfl (by decide) (by decide) rfl ?_
        refine ev_goto 8 dd_X0_readAnd_43 (by decide) ?_
        exact ih _ _
set_option maxHeartbeats 1000000 in
set_option maxRecDepth 20000 in
theorem ct_X0_readAnd (l : Launch) (hl : l.stackTraces = false) (G : zG) (D : Nat) (R : Nat → Nat → Int32 → zM → zO) (hR : ∀ (t : Nat) (ht : zsh t = 0) (a1 : Nat) (ha1 : zsh a1 = 8) (a2 : Int32) (M : zM), zMt l G Y_X0_readExpr D [.ref (G.2.1 + t), .ref (G.2.1 + a1), .int a2] M (R t a1 a2 M)) (t : Nat) (ht : zsh t = 0) (a1 : Nat) (ha1 : zsh a1 = 8) (a2 : Int32) (M : zM) : zMt l G Y_X0_readAnd (D + 19) [.ref (G.2.1 + t), .ref (G.2.1 + a1), .int a2] M (F_X0_readAnd R t a1 a2 M) := by
  refine zMt_of (by decide +kernel) (Nat.le_of_ble_eq_true rfl) ?_
  show zEv l G Y_X0_readAnd (D + 19) 0 0 [(0, .ref (G.2.1 + t)), (1, .ref (G.2.1 + a1)), (2, .int a2)] [] M (zbV (F_X0_readNot R t a1 a2 M) (fun M1 => F_X0_readAnd_L8 R t a1 a2 (fun  (M6 : zM) => zV M6) zN 0 M1))
  refine ev_aload_n dd_X0_readAnd_0 0 rfl ?_
  refine ev_aload_n dd_X0_readAnd_1 1 rfl ?_
  refine ev_iload_n dd_X0_readAnd_2 2 rfl ?_
  refine ev_callVV (As := [.ref (G.2.1 + a1), .int a2]) cl_RX0_60 (ct_X0_readNot l hl G D R hR t ht a1 ha1 a2 M) dd_X0_readAnd_3 ht (by omega) (Nat.le_of_ble_eq_true rfl) (Nat.le_of_ble_eq_true rfl) rfl rfl (fun M1 => ?_)
  refine ev_iconst (v := 0) dd_X0_readAnd_6 (by decide) ?_
  refine ev_istore_n (i := 3) (lv' := [(0, .ref (G.2.1 + t)), (1, .ref (G.2.1 + a1)), (2, .int a2), (3, .int 0)]) [1, 2, 3, 0] dd_X0_readAnd_7 rfl (by decide) rfl ?_
  refine ct_X0_readAnd_L8 l hl G D R hR t ht a1 ha1 a2 _ (fun M6 => ?_) zN _ _
  exact ev_vret dd_X0_readAnd_46 rfl (Nat.le_of_ble_eq_true rfl) rfl
/-! X0_readExpr -/
theorem dd_X0_readExpr_0 : decode Y_X0_readExpr.2.1 0 = .ok (.aload_n 1, 1) := by decide +kernel
theorem dd_X0_readExpr_1 : decode Y_X0_readExpr.2.1 1 = .ok (.getfield 35, 3) := by decide +kernel
theorem dd_X0_readExpr_4 : decode Y_X0_readExpr.2.1 4 = .ok (.sipush 258, 3) := by decide +kernel
theorem dd_X0_readExpr_7 : decode Y_X0_readExpr.2.1 7 = .ok (.if_icmp .eq 22, 3) := by decide +kernel
theorem dd_X0_readExpr_10 : decode Y_X0_readExpr.2.1 10 = .ok (.aload_n 1, 1) := by decide +kernel
theorem dd_X0_readExpr_11 : decode Y_X0_readExpr.2.1 11 = .ok (.getfield 35, 3) := by decide +kernel
theorem dd_X0_readExpr_14 : decode Y_X0_readExpr.2.1 14 = .ok (.sipush 257, 3) := by decide +kernel
theorem dd_X0_readExpr_17 : decode Y_X0_readExpr.2.1 17 = .ok (.if_icmp .eq 12, 3) := by decide +kernel
theorem dd_X0_readExpr_20 : decode Y_X0_readExpr.2.1 20 = .ok (.aload_n 1, 1) := by decide +kernel
theorem dd_X0_readExpr_21 : decode Y_X0_readExpr.2.1 21 = .ok (.getfield 35, 3) := by decide +kernel
theorem dd_X0_readExpr_24 : decode Y_X0_readExpr.2.1 24 = .ok (.bipush 40, 2) := by decide +kernel
theorem dd_X0_readExpr_26 : decode Y_X0_readExpr.2.1 26 = .ok (.if_icmp .ne 7, 3) := by decide +kernel
theorem dd_X0_readExpr_29 : decode Y_X0_readExpr.2.1 29 = .ok (.iconst 1, 1) := by decide +kernel
theorem dd_X0_readExpr_30 : decode Y_X0_readExpr.2.1 30 = .ok (.goto 4, 3) := by decide +kernel
theorem dd_X0_readExpr_33 : decode Y_X0_readExpr.2.1 33 = .ok (.iconst 0, 1) := by decide +kernel
theorem dd_X0_readExpr_34 : decode Y_X0_readExpr.2.1 34 = .ok (.istore_n 3, 1) := by decide +kernel
theorem dd_X0_readExpr_35 : decode Y_X0_readExpr.2.1 35 = .ok (.iload_n 2, 1) := by decide +kernel
theorem dd_X0_readExpr_36 : decode Y_X0_readExpr.2.1 36 = .ok (.bipush 6, 2) := by decide +kernel
theorem dd_X0_readExpr_38 : decode Y_X0_readExpr.2.1 38 = .ok (.if_icmp .lt 12, 3) := by decide +kernel
theorem dd_X0_readExpr_41 : decode Y_X0_readExpr.2.1 41 = .ok (.iload_n 3, 1) := by decide +kernel
theorem dd_X0_readExpr_42 : decode Y_X0_readExpr.2.1 42 = .ok (.ifCond .eq 8, 3) := by decide +kernel
theorem dd_X0_readExpr_45 : decode Y_X0_readExpr.2.1 45 = .ok (.aload_n 1, 1) := by decide +kernel
theorem dd_X0_readExpr_46 : decode Y_X0_readExpr.2.1 46 = .ok (.iconst 2, 1) := by decide +kernel
theorem dd_X0_readExpr_47 : decode Y_X0_readExpr.2.1 47 = .ok (.invokevirtual 40, 3) := by decide +kernel
theorem dd_X0_readExpr_50 : decode Y_X0_readExpr.2.1 50 = .ok (.aload_n 0, 1) := by decide +kernel
theorem dd_X0_readExpr_51 : decode Y_X0_readExpr.2.1 51 = .ok (.aload_n 1, 1) := by decide +kernel
theorem dd_X0_readExpr_52 : decode Y_X0_readExpr.2.1 52 = .ok (.iload_n 2, 1) := by decide +kernel
theorem dd_X0_readExpr_53 : decode Y_X0_readExpr.2.1 53 = .ok (.invokevirtual 44, 3) := by decide +kernel
theorem dd_X0_readExpr_56 : decode Y_X0_readExpr.2.1 56 = .ok (.iconst 0, 1) := by decide +kernel
theorem dd_X0_readExpr_57 : decode Y_X0_readExpr.2.1 57 = .ok (.istore 4, 2) := by decide +kernel
theorem dd_X0_readExpr_59 : decode Y_X0_readExpr.2.1 59 = .ok (.iload 4, 2) := by decide +kernel
theorem dd_X0_readExpr_61 : decode Y_X0_readExpr.2.1 61 = .ok (.sipush 700, 3) := by decide +kernel
theorem dd_X0_readExpr_64 : decode Y_X0_readExpr.2.1 64 = .ok (.if_icmp .ge 34, 3) := by decide +kernel
theorem dd_X0_readExpr_67 : decode Y_X0_readExpr.2.1 67 = .ok (.aload_n 1, 1) := by decide +kernel
theorem dd_X0_readExpr_68 : decode Y_X0_readExpr.2.1 68 = .ok (.ldc 48, 2) := by decide +kernel
theorem dd_X0_readExpr_70 : decode Y_X0_readExpr.2.1 70 = .ok (.invokevirtual 50, 3) := by decide +kernel
theorem dd_X0_readExpr_73 : decode Y_X0_readExpr.2.1 73 = .ok (.ifCond .eq 25, 3) := by decide +kernel
theorem dd_X0_readExpr_76 : decode Y_X0_readExpr.2.1 76 = .ok (.aload_n 1, 1) := by decide +kernel
theorem dd_X0_readExpr_77 : decode Y_X0_readExpr.2.1 77 = .ok (.invokevirtual 54, 3) := by decide +kernel
theorem dd_X0_readExpr_80 : decode Y_X0_readExpr.2.1 80 = .ok (.aload_n 0, 1) := by decide +kernel
theorem dd_X0_readExpr_81 : decode Y_X0_readExpr.2.1 81 = .ok (.aload_n 1, 1) := by decide +kernel
theorem dd_X0_readExpr_82 : decode Y_X0_readExpr.2.1 82 = .ok (.iload_n 2, 1) := by decide +kernel
theorem dd_X0_readExpr_83 : decode Y_X0_readExpr.2.1 83 = .ok (.invokevirtual 44, 3) := by decide +kernel
theorem dd_X0_readExpr_86 : decode Y_X0_readExpr.2.1 86 = .ok (.aload_n 0, 1) := by decide +kernel
theorem dd_X0_readExpr_87 : decode Y_X0_readExpr.2.1 87 = .ok (.bipush (-18), 2) := by decide +kernel
theorem dd_X0_readExpr_89 : decode Y_X0_readExpr.2.1 89 = .ok (.invokevirtual 57, 3) := by decide +kernel
theorem dd_X0_readExpr_92 : decode Y_X0_readExpr.2.1 92 = .ok (.iinc 4 1, 3) := by decide +kernel
theorem dd_X0_readExpr_95 : decode Y_X0_readExpr.2.1 95 = .ok (.goto (-36), 3) := by decide +kernel
theorem dd_X0_readExpr_98 : decode Y_X0_readExpr.2.1 98 = .ok (.return_, 1) := by decide +kernel
def F_X0_readExpr_L59 (R : Nat → Nat → Int32 → zM → zO) (x0 : Nat) (x1 : Nat) (x2 : Int32) (K98 : zM → zO) : Nat → Int32 → zM → zO
  | 0, _, _ => none
  | n + 1, x4, M => zit (700 ≤ x4) (K98 M) (zbI (F_X8_isWord x1 18 M) (fun r1 M6 => zit (r1 = 0) (K98 M6) (zbV (F_X8_step x1 M6) (fun M7 => zbV (F_X0_readAnd R x0 x1 x2 M7) (fun M8 => zbV (F_X0_add x0 (-18) M8) (fun M9 => F_X0_readExpr_L59 R x0 x1 x2 K98 n (x4 + 1) M9))))))
def F_X0_readExpr (R : Nat → Nat → Int32 → zM → zO) (t : Nat) (a1 : Nat) (a2 : Int32) (M : zM) : zO := zjo (fun (w1 : Int32) (M2 : zM) => zjo (fun  (M4 : zM) => zbV (F_X0_readAnd R t a1 a2 M4) (fun M5 => F_X0_readExpr_L59 R t a1 a2 (fun  (M10 : zM) => zV M10) zN 0 M5)) (fun (k3 : zM → zO) => zit (a2 < 6) (k3 M2) (zit (w1 = 0) (k3 M2) (zbV (F_X8_refuse a1 2 M2) (fun M3 => k3 M3))))) (fun (k1 : Int32 → zM → zO) => zjo (fun  (M1 : zM) => k1 1 M1) (fun (k2 : zM → zO) => zit ((M a1 3) = 258) (k2 M) (zit ((M a1 3) = 257) (k2 M) (zit ((M a1 3) = 40) (k2 M) (k1 0 M)))))
def Fr_X0_readExpr : Nat → Nat → Nat → Int32 → zM → zO
  | 0, _, _, _, _ => none
  | n + 1, t, a1, a2, M => F_X0_readExpr (Fr_X0_readExpr n) t a1 a2 M
set_option maxHeartbeats 1000000 in
set_option maxRecDepth 20000 in
theorem ct_X0_readExpr_L59 (l : Launch) (hl : l.stackTraces = false) (G : zG) (D : Nat) (R : Nat → Nat → Int32 → zM → zO) (hR : ∀ (t : Nat) (ht : zsh t = 0) (a1 : Nat) (ha1 : zsh a1 = 8) (a2 : Int32) (M : zM), zMt l G Y_X0_readExpr D [.ref (G.2.1 + t), .ref (G.2.1 + a1), .int a2] M (R t a1 a2 M)) (x0 : Nat) (hx0 : zsh x0 = 0) (x1 : Nat) (hx1 : zsh x1 = 8) (x2 : Int32) (K98 : zM → zO) (hK98 : ∀  (M : zM), zEv l G Y_X0_readExpr (D + 20) 0 98 [] [] M (K98 M)) : ∀ (n : Nat) (x4 : Int32) (M : zM), zEv l G Y_X0_readExpr (D + 20) 0 59 [(0, .ref (G.2.1 + x0)), (1, .ref (G.2.1 + x1)), (2, .int x2), (4, .int x4)] [] M (F_X0_readExpr_L59 R x0 x1 x2 K98 n x4 M) := by
  intro n
  induction n with
  | zero => intro x4 M; exact ev_none
  | succ n ih =>
    intro x4 M
    show zEv l G Y_X0_readExpr (D + 20) 0 59 [(0, .ref (G.2.1 + x0)), (1, .ref (G.2.1 + x1)), (2, .int x2), (4, .int x4)] [] M (zit (700 ≤ x4) (K98 M) (zbI (F_X8_isWord x1 18 M) (fun r1 M6 => zit (r1 = 0) (K98 M6) (zbV (F_X8_step x1 M6) (fun M7 => zbV (F_X0_readAnd R x0 x1 x2 M7) (fun M8 => zbV (F_X0_add x0 (-18) M8) (fun M9 => F_X0_readExpr_L59 R x0 x1 x2 K98 n (x4 + 1) M9)))))))
    refine ev_iload dd_X0_readExpr_59 3 rfl ?_
    refine ev_sipush (v := 700) dd_X0_readExpr_61 (by decide) ?_
    refine ev_icmp_ge 98 dd_X0_readExpr_64 (by decide) ?_ ?_
    · refine ev_lv (lv' := []) [] rfl ?_
      exact hK98 _
    · refine ev_aload_n dd_X0_readExpr_67 1 rfl ?_
      refine ev_ldcs dd_X0_readExpr_68 sr_RX0_48 ?_
      refine ev_callVI (As := [.ref (G.2.2.2.1 18)]) cl_RX0_50 (ct_X8_isWord l hl G x1 hx1 18 (by decide) M) dd_X0_readExpr_70 hx1 (by omega) (Nat.le_of_ble_eq_true rfl) (Nat.le_of_ble_eq_true rfl) rfl rfl (fun r1 M6 => ?_)
      refine ev_if_eq 98 dd_X0_readExpr_73 (by decide) ?_ ?_
      · refine ev_lv (lv' := []) [] rfl ?_
        exact hK98 _
      · refine ev_aload_n dd_X0_readExpr_76 1 rfl ?_
        refine ev_callVV (As := []) cl_RX0_54 (ct_X8_step l hl G x1 hx1 M6) dd_X0_readExpr_77 hx1 (by omega) (Nat.le_of_ble_eq_true rfl) (Nat.le_of_ble_eq_true rfl) rfl rfl (fun M7 => ?_)
        refine ev_aload_n dd_X0_readExpr_80 0 rfl ?_
        refine ev_aload_n dd_X0_readExpr_81 1 rfl ?_
        refine ev_iload_n dd_X0_readExpr_82 2 rfl ?_
        refine ev_callVV (As := [.ref (G.2.1 + x1), .int x2]) cl_RX0_44 (ct_X0_readAnd l hl G D R hR x0 hx0 x1 hx1 x2 M7) dd_X0_readExpr_83 hx0 (by omega) (Nat.le_of_ble_eq_true rfl) (Nat.le_of_ble_eq_true rfl) rfl rfl (fun M8 => ?_)
        refine ev_aload_n dd_X0_readExpr_86 0 rfl ?_
        refine ev_bipush (v := (-18)) dd_X0_readExpr_87 (by decide) ?_
        refine ev_callVV (As := [.int (-18)]) cl_RX0_57 (ct_X0_add l hl G x0 hx0 (-18) M8) dd_X0_readExpr_89 hx0 (by omega) (Nat.le_of_ble_eq_true rfl) (Nat.le_of_ble_eq_true rfl) rfl rfl (fun M9 => ?_)
        refine ev_iinc (j := 3) (v := 1) (lv' := [(0, .ref (G.2.1 + x0)), (1, .ref (G.2.1 + x1)), (2, .int x2), (4, .int (x4 + 1))]) [1, 2, 3, 0] dd_X0_readExpr_92 rfl (by decide) (by decide) rfl ?_
        refine ev_goto 59 dd_X0_readExpr_95 (by decide) ?_
        exact ih _ _
set_option maxHeartbeats 1000000 in
set_option maxRecDepth 20000 in
theorem ct_X0_readExpr (l : Launch) (hl : l.stackTraces = false) (G : zG) (D : Nat) (R : Nat → Nat → Int32 → zM → zO) (hR : ∀ (t : Nat) (ht : zsh t = 0) (a1 : Nat) (ha1 : zsh a1 = 8) (a2 : Int32) (M : zM), zMt l G Y_X0_readExpr D [.ref (G.2.1 + t), .ref (G.2.1 + a1), .int a2] M (R t a1 a2 M)) (t : Nat) (ht : zsh t = 0) (a1 : Nat) (ha1 : zsh a1 = 8) (a2 : Int32) (M : zM) : zMt l G Y_X0_readExpr (D + 20) [.ref (G.2.1 + t), .ref (G.2.1 + a1), .int a2] M (F_X0_readExpr R t a1 a2 M) := by
  refine zMt_of (by decide +kernel) (Nat.le_of_ble_eq_true rfl) ?_
  show zEv l G Y_X0_readExpr (D + 20) 0 0 [(0, .ref (G.2.1 + t)), (1, .ref (G.2.1 + a1)), (2, .int a2)] [] M (zjo (fun (w1 : Int32) (M2 : zM) => zjo (fun  (M4 : zM) => zbV (F_X0_readAnd R t a1 a2 M4) (fun M5 => F_X0_readExpr_L59 R t a1 a2 (fun  (M10 : zM) => zV M10) zN 0 M5)) (fun (k3 : zM → zO) => zit (a2 < 6) (k3 M2) (zit (w1 = 0) (k3 M2) (zbV (F_X8_refuse a1 2 M2) (fun M3 => k3 M3))))) (fun (k1 : Int32 → zM → zO) => zjo (fun  (M1 : zM) => k1 1 M1) (fun (k2 : zM → zO) => zit ((M a1 3) = 258) (k2 M) (zit ((M a1 3) = 257) (k2 M) (zit ((M a1 3) = 40) (k2 M) (k1 0 M))))))
  refine ev_aload_n dd_X0_readExpr_0 1 rfl ?_
  refine ev_getI gf_RX0_35 dd_X0_readExpr_1 ha1 (by decide) ?_
  refine ev_sipush (v := 258) dd_X0_readExpr_4 (by decide) ?_
  refine ev_jo (fun (k1 : Int32 → zM → zO) => ∀ (w1 : Int32) (M2 : zM), zEv l G Y_X0_readExpr (D + 20) 0 34 [(0, .ref (G.2.1 + t)), (1, .ref (G.2.1 + a1)), (2, .int a2)] [.int w1] M2 (k1 w1 M2)) ?_ (fun k1 hk1 => ?_)
  · intro w1 M2
    refine ev_istore_n (i := 3) (lv' := [(0, .ref (G.2.1 + t)), (1, .ref (G.2.1 + a1)), (2, .int a2), (3, .int w1)]) [1, 2, 3, 0] dd_X0_readExpr_34 rfl (by decide) rfl ?_
    refine ev_iload_n dd_X0_readExpr_35 2 rfl ?_
    refine ev_bipush (v := 6) dd_X0_readExpr_36 (by decide) ?_
    refine ev_jo (fun (k3 : zM → zO) => ∀  (M4 : zM), zEv l G Y_X0_readExpr (D + 20) 0 50 [(0, .ref (G.2.1 + t)), (1, .ref (G.2.1 + a1)), (2, .int a2)] [] M4 (k3 M4)) ?_ (fun k3 hk3 => ?_)
    · intro M4
      refine ev_aload_n dd_X0_readExpr_50 0 rfl ?_
      refine ev_aload_n dd_X0_readExpr_51 1 rfl ?_
      refine ev_iload_n dd_X0_readExpr_52 2 rfl ?_
      refine ev_callVV (As := [.ref (G.2.1 + a1), .int a2]) cl_RX0_44 (ct_X0_readAnd l hl G D R hR t ht a1 ha1 a2 M4) dd_X0_readExpr_53 ht (by omega) (Nat.le_of_ble_eq_true rfl) (Nat.le_of_ble_eq_true rfl) rfl rfl (fun M5 => ?_)
      refine ev_iconst (v := 0) dd_X0_readExpr_56 (by decide) ?_
      refine ev_istore (i := 4) (lv' := [(0, .ref (G.2.1 + t)), (1, .ref (G.2.1 + a1)), (2, .int a2), (4, .int 0)]) [1, 2, 3, 0] dd_X0_readExpr_57 (by decide) rfl ?_
      refine ct_X0_readExpr_L59 l hl G D R hR t ht a1 ha1 a2 _ (fun M10 => ?_) zN _ _
      exact ev_vret dd_X0_readExpr_98 rfl (Nat.le_of_ble_eq_true rfl) rfl
    · refine ev_icmp_lt 50 dd_X0_readExpr_38 (by decide) ?_ ?_
      · refine ev_lv (lv' := [(0, .ref (G.2.1 + t)), (1, .ref (G.2.1 + a1)), (2, .int a2)]) [0, 1, 2] rfl ?_
        exact hk3 _
      · refine ev_iload_n dd_X0_readExpr_41 3 rfl ?_
        refine ev_lv (lv' := [(0, .ref (G.2.1 + t)), (1, .ref (G.2.1 + a1)), (2, .int a2)]) [0, 1, 2] rfl ?_
        refine ev_if_eq 50 dd_X0_readExpr_42 (by decide) ?_ ?_
        · exact hk3 _
        · refine ev_aload_n dd_X0_readExpr_45 1 rfl ?_
          refine ev_iconst (v := 2) dd_X0_readExpr_46 (by decide) ?_
          refine ev_callVV (As := [.int 2]) cl_RX0_40 (ct_X8_refuse l hl G a1 ha1 2 M2) dd_X0_readExpr_47 ha1 (by omega) (Nat.le_of_ble_eq_true rfl) (Nat.le_of_ble_eq_true rfl) rfl rfl (fun M3 => ?_)
          exact hk3 _
  · refine ev_jo (fun (k2 : zM → zO) => ∀  (M1 : zM), zEv l G Y_X0_readExpr (D + 20) 0 29 [(0, .ref (G.2.1 + t)), (1, .ref (G.2.1 + a1)), (2, .int a2)] [] M1 (k2 M1)) ?_ (fun k2 hk2 => ?_)
    · intro M1
      refine ev_iconst (v := 1) dd_X0_readExpr_29 (by decide) ?_
      refine ev_goto 34 dd_X0_readExpr_30 (by decide) ?_
      exact hk1 _ _
    · refine ev_icmp_eq 29 dd_X0_readExpr_7 (by decide) ?_ ?_
      · exact hk2 _
      · refine ev_aload_n dd_X0_readExpr_10 1 rfl ?_
        refine ev_getI gf_RX0_35 dd_X0_readExpr_11 ha1 (by decide) ?_
        refine ev_sipush (v := 257) dd_X0_readExpr_14 (by decide) ?_
        refine ev_icmp_eq 29 dd_X0_readExpr_17 (by decide) ?_ ?_
        · exact hk2 _
        · refine ev_aload_n dd_X0_readExpr_20 1 rfl ?_
          refine ev_getI gf_RX0_35 dd_X0_readExpr_21 ha1 (by decide) ?_
          refine ev_bipush (v := 40) dd_X0_readExpr_24 (by decide) ?_
          refine ev_icmp_ne 33 dd_X0_readExpr_26 (by decide) ?_ ?_
          · refine ev_iconst (v := 0) dd_X0_readExpr_33 (by decide) ?_
            exact hk1 _ _
          · exact hk2 _
set_option maxHeartbeats 1000000 in
set_option maxRecDepth 20000 in
theorem cr_X0_readExpr (l : Launch) (hl : l.stackTraces = false) (G : zG) : ∀ (n : Nat) (t : Nat) (ht : zsh t = 0) (a1 : Nat) (ha1 : zsh a1 = 8) (a2 : Int32) (M : zM), zMt l G Y_X0_readExpr (n * 20) [.ref (G.2.1 + t), .ref (G.2.1 + a1), .int a2] M (Fr_X0_readExpr n t a1 a2 M) := by
  intro n
  induction n with
  | zero => intro t ht a1 ha1 a2 M r M' h; cases h
  | succ n ih =>
    intro t ht a1 ha1 a2 M
    rw [Nat.succ_mul]
    exact ct_X0_readExpr l hl G (n * 20) (Fr_X0_readExpr n) ih t ht a1 ha1 a2 M

