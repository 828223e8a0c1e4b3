/-! F functions and walks, by program (gen.py, mkparts.py) -/
/-! X1_rank -/
theorem dd_X1_rank_0 : decode Y_X1_rank.2.1 0 = .ok (.aload_n 0, 1) := by decide +kernel
theorem dd_X1_rank_1 : decode Y_X1_rank.2.1 1 = .ok (.getfield 25, 3) := by decide +kernel
theorem dd_X1_rank_4 : decode Y_X1_rank.2.1 4 = .ok (.getfield 33, 3) := by decide +kernel
theorem dd_X1_rank_7 : decode Y_X1_rank.2.1 7 = .ok (.iload_n 1, 1) := by decide +kernel
theorem dd_X1_rank_8 : decode Y_X1_rank.2.1 8 = .ok (.bipush 8, 2) := by decide +kernel
theorem dd_X1_rank_10 : decode Y_X1_rank.2.1 10 = .ok (.imul, 1) := by decide +kernel
theorem dd_X1_rank_11 : decode Y_X1_rank.2.1 11 = .ok (.iload_n 2, 1) := by decide +kernel
theorem dd_X1_rank_12 : decode Y_X1_rank.2.1 12 = .ok (.iadd, 1) := by decide +kernel
theorem dd_X1_rank_13 : decode Y_X1_rank.2.1 13 = .ok (.iaload, 1) := by decide +kernel
theorem dd_X1_rank_14 : decode Y_X1_rank.2.1 14 = .ok (.istore_n 3, 1) := by decide +kernel
theorem dd_X1_rank_15 : decode Y_X1_rank.2.1 15 = .ok (.iload_n 3, 1) := by decide +kernel
theorem dd_X1_rank_16 : decode Y_X1_rank.2.1 16 = .ok (.ifCond .eq 5, 3) := by decide +kernel
theorem dd_X1_rank_19 : decode Y_X1_rank.2.1 19 = .ok (.iload_n 3, 1) := by decide +kernel
theorem dd_X1_rank_20 : decode Y_X1_rank.2.1 20 = .ok (.ireturn, 1) := by decide +kernel
theorem dd_X1_rank_21 : decode Y_X1_rank.2.1 21 = .ok (.aload_n 0, 1) := by decide +kernel
theorem dd_X1_rank_22 : decode Y_X1_rank.2.1 22 = .ok (.getfield 29, 3) := by decide +kernel
theorem dd_X1_rank_25 : decode Y_X1_rank.2.1 25 = .ok (.getfield 38, 3) := by decide +kernel
theorem dd_X1_rank_28 : decode Y_X1_rank.2.1 28 = .ok (.iload_n 1, 1) := by decide +kernel
theorem dd_X1_rank_29 : decode Y_X1_rank.2.1 29 = .ok (.iaload, 1) := by decide +kernel
theorem dd_X1_rank_30 : decode Y_X1_rank.2.1 30 = .ok (.iload_n 2, 1) := by decide +kernel
theorem dd_X1_rank_31 : decode Y_X1_rank.2.1 31 = .ok (.if_icmp .ne 8, 3) := by decide +kernel
theorem dd_X1_rank_34 : decode Y_X1_rank.2.1 34 = .ok (.bipush 9, 2) := by decide +kernel
theorem dd_X1_rank_36 : decode Y_X1_rank.2.1 36 = .ok (.goto 5, 3) := by decide +kernel
theorem dd_X1_rank_39 : decode Y_X1_rank.2.1 39 = .ok (.bipush 10, 2) := by decide +kernel
theorem dd_X1_rank_41 : decode Y_X1_rank.2.1 41 = .ok (.ireturn, 1) := by decide +kernel
def F_X1_rank (t : Nat) (a1 : Int32) (a2 : Int32) (M : zM) : zO := zck (zin ((a1 * 8) + a2) 64) (zlt (M (zgr (zgr t 0) 10) (zix ((a1 * 8) + a2))) (fun v1 => zit (v1 = 0) (zck (zin a1 8) (zjo (fun (w1 : Int32) (M1 : zM) => zI w1 M1) (fun (k1 : Int32 → zM → zO) => zit ((M (zgr (zgr t 1) 1) (zix a1)) = a2) (k1 9 M) (k1 10 M)))) (zI v1 M)))
set_option maxHeartbeats 1000000 in
set_option maxRecDepth 20000 in
theorem ct_X1_rank (l : Launch) (hl : l.stackTraces = false) (G : zG) (t : Nat) (ht : zsh t = 1) (a1 : Int32) (a2 : Int32) (M : zM) : zMt l G Y_X1_rank 1 [.ref (G.2.1 + t), .int a1, .int a2] M (F_X1_rank t a1 a2 M) := by
  refine zMt_of (by decide +kernel) (Nat.le_of_ble_eq_true rfl) ?_
  show zEv l G Y_X1_rank 1 0 0 [(0, .ref (G.2.1 + t)), (1, .int a1), (2, .int a2)] [] M (zck (zin ((a1 * 8) + a2) 64) (zlt (M (zgr (zgr t 0) 10) (zix ((a1 * 8) + a2))) (fun v1 => zit (v1 = 0) (zck (zin a1 8) (zjo (fun (w1 : Int32) (M1 : zM) => zI w1 M1) (fun (k1 : Int32 → zM → zO) => zit ((M (zgr (zgr t 1) 1) (zix a1)) = a2) (k1 9 M) (k1 10 M)))) (zI v1 M))))
  refine ev_aload_n dd_X1_rank_0 0 rfl ?_
  refine ev_getR gf_RX1_25 dd_X1_rank_1 ht (by decide) ?_
  refine ev_getR gf_RX1_33 dd_X1_rank_4 (zg_1_0 ht) (by decide) ?_
  refine ev_iload_n dd_X1_rank_7 1 rfl ?_
  refine ev_bipush (v := 8) dd_X1_rank_8 (by decide) ?_
  refine ev_imul dd_X1_rank_10 ?_
  refine ev_iload_n dd_X1_rank_11 2 rfl ?_
  refine ev_iadd dd_X1_rank_12 ?_
  refine ev_iald dd_X1_rank_13 ((zg_6_10 (zg_1_0 ht)).1) ((zg_6_10 (zg_1_0 ht)).2) ?_
  refine ev_topi (fun v1 => ?_)
  refine ev_istore_n (i := 3) (lv' := [(0, .ref (G.2.1 + t)), (1, .int a1), (2, .int a2), (3, .int v1)]) [1, 2, 3, 0] dd_X1_rank_14 rfl (by decide) rfl ?_
  refine ev_iload_n dd_X1_rank_15 3 rfl ?_
  refine ev_if_eq 21 dd_X1_rank_16 (by decide) ?_ ?_
  · refine ev_lv (lv' := [(0, .ref (G.2.1 + t)), (1, .int a1), (2, .int a2)]) [0, 1, 2] rfl ?_
    refine ev_aload_n dd_X1_rank_21 0 rfl ?_
    refine ev_lv (lv' := [(1, .int a1), (2, .int a2)]) [1, 2] rfl ?_
    refine ev_getR gf_RX1_29 dd_X1_rank_22 ht (by decide) ?_
    refine ev_getR gf_RX1_38 dd_X1_rank_25 (zg_1_1 ht) (by decide) ?_
    refine ev_iload_n dd_X1_rank_28 0 rfl ?_
    refine ev_lv (lv' := [(2, .int a2)]) [1] rfl ?_
    refine ev_iald dd_X1_rank_29 ((zg_10_1 (zg_1_1 ht)).1) ((zg_10_1 (zg_1_1 ht)).2) ?_
    refine ev_iload_n dd_X1_rank_30 0 rfl ?_
    refine ev_lv (lv' := []) [] rfl ?_
    refine ev_jo (fun (k1 : Int32 → zM → zO) => ∀ (w1 : Int32) (M1 : zM), zEv l G Y_X1_rank 1 0 41 [] [.int w1] M1 (k1 w1 M1)) ?_ (fun k1 hk1 => ?_)
    · intro w1 M1
      exact ev_iret dd_X1_rank_41 rfl (Nat.le_of_ble_eq_true rfl) rfl
    · refine ev_icmp_ne 39 dd_X1_rank_31 (by decide) ?_ ?_
      · refine ev_bipush (v := 10) dd_X1_rank_39 (by decide) ?_
        exact hk1 _ _
      · refine ev_bipush (v := 9) dd_X1_rank_34 (by decide) ?_
        refine ev_goto 41 dd_X1_rank_36 (by decide) ?_
        exact hk1 _ _
  · refine ev_lv (lv' := [(3, .int v1)]) [3] rfl ?_
    refine ev_iload_n dd_X1_rank_19 0 rfl ?_
    refine ev_lv (lv' := []) [] rfl ?_
    exact ev_iret dd_X1_rank_20 rfl (Nat.le_of_ble_eq_true rfl) rfl
/-! X1_likesMore -/
theorem dd_X1_likesMore_0 : decode Y_X1_likesMore.2.1 0 = .ok (.aload_n 0, 1) := by decide +kernel
theorem dd_X1_likesMore_1 : decode Y_X1_likesMore.2.1 1 = .ok (.iload_n 1, 1) := by decide +kernel
theorem dd_X1_likesMore_2 : decode Y_X1_likesMore.2.1 2 = .ok (.iload_n 2, 1) := by decide +kernel
theorem dd_X1_likesMore_3 : decode Y_X1_likesMore.2.1 3 = .ok (.invokevirtual 43, 3) := by decide +kernel
theorem dd_X1_likesMore_6 : decode Y_X1_likesMore.2.1 6 = .ok (.aload_n 0, 1) := by decide +kernel
theorem dd_X1_likesMore_7 : decode Y_X1_likesMore.2.1 7 = .ok (.iload_n 1, 1) := by decide +kernel
theorem dd_X1_likesMore_8 : decode Y_X1_likesMore.2.1 8 = .ok (.iload_n 3, 1) := by decide +kernel
theorem dd_X1_likesMore_9 : decode Y_X1_likesMore.2.1 9 = .ok (.invokevirtual 43, 3) := by decide +kernel
theorem dd_X1_likesMore_12 : decode Y_X1_likesMore.2.1 12 = .ok (.if_icmp .ge 7, 3) := by decide +kernel
theorem dd_X1_likesMore_15 : decode Y_X1_likesMore.2.1 15 = .ok (.iconst 1, 1) := by decide +kernel
theorem dd_X1_likesMore_16 : decode Y_X1_likesMore.2.1 16 = .ok (.goto 4, 3) := by decide +kernel
theorem dd_X1_likesMore_19 : decode Y_X1_likesMore.2.1 19 = .ok (.iconst 0, 1) := by decide +kernel
theorem dd_X1_likesMore_20 : decode Y_X1_likesMore.2.1 20 = .ok (.ireturn, 1) := by decide +kernel
def F_X1_likesMore (t : Nat) (a1 : Int32) (a2 : Int32) (a3 : Int32) (M : zM) : zO := zbI (F_X1_rank t a1 a2 M) (fun r1 M1 => zbI (F_X1_rank t a1 a3 M1) (fun r2 M2 => zjo (fun (w1 : Int32) (M3 : zM) => zck (zbo w1) (zI w1 M3)) (fun (k1 : Int32 → zM → zO) => zit (r2 ≤ r1) (k1 0 M2) (k1 1 M2))))
set_option maxHeartbeats 1000000 in
set_option maxRecDepth 20000 in
theorem ct_X1_likesMore (l : Launch) (hl : l.stackTraces = false) (G : zG) (t : Nat) (ht : zsh t = 1) (a1 : Int32) (a2 : Int32) (a3 : Int32) (M : zM) : zMt l G Y_X1_likesMore 2 [.ref (G.2.1 + t), .int a1, .int a2, .int a3] M (F_X1_likesMore t a1 a2 a3 M) := by
  refine zMt_of (by decide +kernel) (Nat.le_of_ble_eq_true rfl) ?_
  show zEv l G Y_X1_likesMore 2 0 0 [(0, .ref (G.2.1 + t)), (1, .int a1), (2, .int a2), (3, .int a3)] [] M (zbI (F_X1_rank t a1 a2 M) (fun r1 M1 => zbI (F_X1_rank t a1 a3 M1) (fun r2 M2 => zjo (fun (w1 : Int32) (M3 : zM) => zck (zbo w1) (zI w1 M3)) (fun (k1 : Int32 → zM → zO) => zit (r2 ≤ r1) (k1 0 M2) (k1 1 M2)))))
  refine ev_aload_n dd_X1_likesMore_0 0 rfl ?_
  refine ev_iload_n dd_X1_likesMore_1 1 rfl ?_
  refine ev_iload_n dd_X1_likesMore_2 2 rfl ?_
  refine ev_lv (lv' := [(0, .ref (G.2.1 + t)), (1, .int a1), (3, .int a3)]) [0, 1, 3] rfl ?_
  refine ev_callVI (As := [.int a1, .int a2]) cl_RX1_43 (ct_X1_rank l hl G t ht a1 a2 M) dd_X1_likesMore_3 ht (by decide) (Nat.le_of_ble_eq_true rfl) (Nat.le_of_ble_eq_true rfl) rfl rfl (fun r1 M1 => ?_)
  refine ev_aload_n dd_X1_likesMore_6 0 rfl ?_
  refine ev_lv (lv' := [(1, .int a1), (3, .int a3)]) [1, 2] rfl ?_
  refine ev_iload_n dd_X1_likesMore_7 0 rfl ?_
  refine ev_lv (lv' := [(3, .int a3)]) [1] rfl ?_
  refine ev_iload_n dd_X1_likesMore_8 0 rfl ?_
  refine ev_lv (lv' := []) [] rfl ?_
  refine ev_callVI (As := [.int a1, .int a3]) cl_RX1_43 (ct_X1_rank l hl G t ht a1 a3 M1) dd_X1_likesMore_9 ht (by decide) (Nat.le_of_ble_eq_true rfl) (Nat.le_of_ble_eq_true rfl) rfl rfl (fun r2 M2 => ?_)
  refine ev_jo (fun (k1 : Int32 → zM → zO) => ∀ (w1 : Int32) (M3 : zM), zEv l G Y_X1_likesMore 2 0 20 [] [.int w1] M3 (k1 w1 M3)) ?_ (fun k1 hk1 => ?_)
  · intro w1 M3
    exact ev_zret dd_X1_likesMore_20 rfl (Nat.le_of_ble_eq_true rfl) rfl
  · refine ev_icmp_ge 19 dd_X1_likesMore_12 (by decide) ?_ ?_
    · refine ev_iconst (v := 0) dd_X1_likesMore_19 (by decide) ?_
      exact hk1 _ _
    · refine ev_iconst (v := 1) dd_X1_likesMore_15 (by decide) ?_
      refine ev_goto 20 dd_X1_likesMore_16 (by decide) ?_
      exact hk1 _ _
/-! X1_wants -/
theorem dd_X1_wants_0 : decode Y_X1_wants.2.1 0 = .ok (.aload_n 0, 1) := by decide +kernel
theorem dd_X1_wants_1 : decode Y_X1_wants.2.1 1 = .ok (.iload_n 1, 1) := by decide +kernel
theorem dd_X1_wants_2 : decode Y_X1_wants.2.1 2 = .ok (.aload_n 0, 1) := by decide +kernel
theorem dd_X1_wants_3 : decode Y_X1_wants.2.1 3 = .ok (.getfield 29, 3) := by decide +kernel
theorem dd_X1_wants_6 : decode Y_X1_wants.2.1 6 = .ok (.getfield 38, 3) := by decide +kernel
theorem dd_X1_wants_9 : decode Y_X1_wants.2.1 9 = .ok (.iload_n 2, 1) := by decide +kernel
theorem dd_X1_wants_10 : decode Y_X1_wants.2.1 10 = .ok (.iaload, 1) := by decide +kernel
theorem dd_X1_wants_11 : decode Y_X1_wants.2.1 11 = .ok (.aload_n 0, 1) := by decide +kernel
theorem dd_X1_wants_12 : decode Y_X1_wants.2.1 12 = .ok (.getfield 29, 3) := by decide +kernel
theorem dd_X1_wants_15 : decode Y_X1_wants.2.1 15 = .ok (.getfield 38, 3) := by decide +kernel
theorem dd_X1_wants_18 : decode Y_X1_wants.2.1 18 = .ok (.iload_n 1, 1) := by decide +kernel
theorem dd_X1_wants_19 : decode Y_X1_wants.2.1 19 = .ok (.iaload, 1) := by decide +kernel
theorem dd_X1_wants_20 : decode Y_X1_wants.2.1 20 = .ok (.invokevirtual 47, 3) := by decide +kernel
theorem dd_X1_wants_23 : decode Y_X1_wants.2.1 23 = .ok (.ireturn, 1) := by decide +kernel
def F_X1_wants (t : Nat) (a1 : Int32) (a2 : Int32) (M : zM) : zO := zck (zin a2 8) (zck (zin a1 8) (zbI (F_X1_likesMore t a1 (M (zgr (zgr t 1) 1) (zix a2)) (M (zgr (zgr t 1) 1) (zix a1)) M) (fun r1 M1 => zck (zbo r1) (zI r1 M1))))
set_option maxHeartbeats 1000000 in
set_option maxRecDepth 20000 in
theorem ct_X1_wants (l : Launch) (hl : l.stackTraces = false) (G : zG) (t : Nat) (ht : zsh t = 1) (a1 : Int32) (a2 : Int32) (M : zM) : zMt l G Y_X1_wants 3 [.ref (G.2.1 + t), .int a1, .int a2] M (F_X1_wants t a1 a2 M) := by
  refine zMt_of (by decide +kernel) (Nat.le_of_ble_eq_true rfl) ?_
  show zEv l G Y_X1_wants 3 0 0 [(0, .ref (G.2.1 + t)), (1, .int a1), (2, .int a2)] [] M (zck (zin a2 8) (zck (zin a1 8) (zbI (F_X1_likesMore t a1 (M (zgr (zgr t 1) 1) (zix a2)) (M (zgr (zgr t 1) 1) (zix a1)) M) (fun r1 M1 => zck (zbo r1) (zI r1 M1)))))
  refine ev_aload_n dd_X1_wants_0 0 rfl ?_
  refine ev_iload_n dd_X1_wants_1 1 rfl ?_
  refine ev_aload_n dd_X1_wants_2 0 rfl ?_
  refine ev_getR gf_RX1_29 dd_X1_wants_3 ht (by decide) ?_
  refine ev_getR gf_RX1_38 dd_X1_wants_6 (zg_1_1 ht) (by decide) ?_
  refine ev_iload_n dd_X1_wants_9 2 rfl ?_
  refine ev_lv (lv' := [(0, .ref (G.2.1 + t)), (1, .int a1)]) [0, 1] rfl ?_
  refine ev_iald dd_X1_wants_10 ((zg_10_1 (zg_1_1 ht)).1) ((zg_10_1 (zg_1_1 ht)).2) ?_
  refine ev_aload_n dd_X1_wants_11 0 rfl ?_
  refine ev_lv (lv' := [(1, .int a1)]) [1] rfl ?_
  refine ev_getR gf_RX1_29 dd_X1_wants_12 ht (by decide) ?_
  refine ev_getR gf_RX1_38 dd_X1_wants_15 (zg_1_1 ht) (by decide) ?_
  refine ev_iload_n dd_X1_wants_18 0 rfl ?_
  refine ev_lv (lv' := []) [] rfl ?_
  refine ev_iald dd_X1_wants_19 ((zg_10_1 (zg_1_1 ht)).1) ((zg_10_1 (zg_1_1 ht)).2) ?_
  refine ev_callVI (As := [.int a1, .int (M (zgr (zgr t 1) 1) (zix a2)), .int (M (zgr (zgr t 1) 1) (zix a1))]) cl_RX1_47 (ct_X1_likesMore l hl G t ht a1 (M (zgr (zgr t 1) 1) (zix a2)) (M (zgr (zgr t 1) 1) (zix a1)) M) dd_X1_wants_20 ht (by decide) (Nat.le_of_ble_eq_true rfl) (Nat.le_of_ble_eq_true rfl) rfl rfl (fun r1 M1 => ?_)
  exact ev_zret dd_X1_wants_23 rfl (Nat.le_of_ble_eq_true rfl) rfl
/-! X1_firstGladCouple -/
theorem dd_X1_firstGladCouple_0 : decode Y_X1_firstGladCouple.2.1 0 = .ok (.iconst 0, 1) := by decide +kernel
theorem dd_X1_firstGladCouple_1 : decode Y_X1_firstGladCouple.2.1 1 = .ok (.istore_n 1, 1) := by decide +kernel
theorem dd_X1_firstGladCouple_2 : decode Y_X1_firstGladCouple.2.1 2 = .ok (.iload_n 1, 1) := by decide +kernel
theorem dd_X1_firstGladCouple_3 : decode Y_X1_firstGladCouple.2.1 3 = .ok (.aload_n 0, 1) := by decide +kernel
theorem dd_X1_firstGladCouple_4 : decode Y_X1_firstGladCouple.2.1 4 = .ok (.getfield 25, 3) := by decide +kernel
theorem dd_X1_firstGladCouple_7 : decode Y_X1_firstGladCouple.2.1 7 = .ok (.getfield 51, 3) := by decide +kernel
theorem dd_X1_firstGladCouple_10 : decode Y_X1_firstGladCouple.2.1 10 = .ok (.if_icmp .ge 55, 3) := by decide +kernel
theorem dd_X1_firstGladCouple_13 : decode Y_X1_firstGladCouple.2.1 13 = .ok (.iload_n 1, 1) := by decide +kernel
theorem dd_X1_firstGladCouple_14 : decode Y_X1_firstGladCouple.2.1 14 = .ok (.iconst 1, 1) := by decide +kernel
theorem dd_X1_firstGladCouple_15 : decode Y_X1_firstGladCouple.2.1 15 = .ok (.iadd, 1) := by decide +kernel
theorem dd_X1_firstGladCouple_16 : decode Y_X1_firstGladCouple.2.1 16 = .ok (.istore_n 2, 1) := by decide +kernel
theorem dd_X1_firstGladCouple_17 : decode Y_X1_firstGladCouple.2.1 17 = .ok (.iload_n 2, 1) := by decide +kernel
theorem dd_X1_firstGladCouple_18 : decode Y_X1_firstGladCouple.2.1 18 = .ok (.aload_n 0, 1) := by decide +kernel
theorem dd_X1_firstGladCouple_19 : decode Y_X1_firstGladCouple.2.1 19 = .ok (.getfield 25, 3) := by decide +kernel
theorem dd_X1_firstGladCouple_22 : decode Y_X1_firstGladCouple.2.1 22 = .ok (.getfield 51, 3) := by decide +kernel
theorem dd_X1_firstGladCouple_25 : decode Y_X1_firstGladCouple.2.1 25 = .ok (.if_icmp .ge 34, 3) := by decide +kernel
theorem dd_X1_firstGladCouple_28 : decode Y_X1_firstGladCouple.2.1 28 = .ok (.aload_n 0, 1) := by decide +kernel
theorem dd_X1_firstGladCouple_29 : decode Y_X1_firstGladCouple.2.1 29 = .ok (.iload_n 1, 1) := by decide +kernel
theorem dd_X1_firstGladCouple_30 : decode Y_X1_firstGladCouple.2.1 30 = .ok (.iload_n 2, 1) := by decide +kernel
theorem dd_X1_firstGladCouple_31 : decode Y_X1_firstGladCouple.2.1 31 = .ok (.invokevirtual 54, 3) := by decide +kernel
theorem dd_X1_firstGladCouple_34 : decode Y_X1_firstGladCouple.2.1 34 = .ok (.ifCond .eq 19, 3) := by decide +kernel
theorem dd_X1_firstGladCouple_37 : decode Y_X1_firstGladCouple.2.1 37 = .ok (.aload_n 0, 1) := by decide +kernel
theorem dd_X1_firstGladCouple_38 : decode Y_X1_firstGladCouple.2.1 38 = .ok (.iload_n 2, 1) := by decide +kernel
theorem dd_X1_firstGladCouple_39 : decode Y_X1_firstGladCouple.2.1 39 = .ok (.iload_n 1, 1) := by decide +kernel
theorem dd_X1_firstGladCouple_40 : decode Y_X1_firstGladCouple.2.1 40 = .ok (.invokevirtual 54, 3) := by decide +kernel
theorem dd_X1_firstGladCouple_43 : decode Y_X1_firstGladCouple.2.1 43 = .ok (.ifCond .eq 10, 3) := by decide +kernel
theorem dd_X1_firstGladCouple_46 : decode Y_X1_firstGladCouple.2.1 46 = .ok (.bipush 10, 2) := by decide +kernel
theorem dd_X1_firstGladCouple_48 : decode Y_X1_firstGladCouple.2.1 48 = .ok (.iload_n 1, 1) := by decide +kernel
theorem dd_X1_firstGladCouple_49 : decode Y_X1_firstGladCouple.2.1 49 = .ok (.imul, 1) := by decide +kernel
theorem dd_X1_firstGladCouple_50 : decode Y_X1_firstGladCouple.2.1 50 = .ok (.iload_n 2, 1) := by decide +kernel
theorem dd_X1_firstGladCouple_51 : decode Y_X1_firstGladCouple.2.1 51 = .ok (.iadd, 1) := by decide +kernel
theorem dd_X1_firstGladCouple_52 : decode Y_X1_firstGladCouple.2.1 52 = .ok (.ireturn, 1) := by decide +kernel
theorem dd_X1_firstGladCouple_53 : decode Y_X1_firstGladCouple.2.1 53 = .ok (.iinc 2 1, 3) := by decide +kernel
theorem dd_X1_firstGladCouple_56 : decode Y_X1_firstGladCouple.2.1 56 = .ok (.goto (-39), 3) := by decide +kernel
theorem dd_X1_firstGladCouple_59 : decode Y_X1_firstGladCouple.2.1 59 = .ok (.iinc 1 1, 3) := by decide +kernel
theorem dd_X1_firstGladCouple_62 : decode Y_X1_firstGladCouple.2.1 62 = .ok (.goto (-60), 3) := by decide +kernel
theorem dd_X1_firstGladCouple_65 : decode Y_X1_firstGladCouple.2.1 65 = .ok (.iconst (-1), 1) := by decide +kernel
theorem dd_X1_firstGladCouple_66 : decode Y_X1_firstGladCouple.2.1 66 = .ok (.ireturn, 1) := by decide +kernel
def F_X1_firstGladCouple_L17 (x0 : Nat) (x1 : Int32) (K59 : zM → zO) : Nat → Int32 → zM → zO
  | 0, _, _ => none
  | n + 1, x2, M => zit ((M (zgr x0 0) 0) ≤ x2) (K59 M) (zbI (F_X1_wants x0 x1 x2 M) (fun r1 M1 => zjo (fun  (M3 : zM) => F_X1_firstGladCouple_L17 x0 x1 K59 n (x2 + 1) M3) (fun (k1 : zM → zO) => zit (r1 = 0) (k1 M1) (zbI (F_X1_wants x0 x2 x1 M1) (fun r2 M2 => zit (r2 = 0) (k1 M2) (zI ((10 * x1) + x2) M2))))))
def F_X1_firstGladCouple_L2 (x0 : Nat) (K65 : zM → zO) : Nat → Int32 → zM → zO
  | 0, _, _ => none
  | n + 1, x1, M => zit ((M (zgr x0 0) 0) ≤ x1) (K65 M) (zlt (x1 + 1) (fun v1 => F_X1_firstGladCouple_L17 x0 x1 (fun  (M4 : zM) => F_X1_firstGladCouple_L2 x0 K65 n (x1 + 1) M4) zN v1 M))
def F_X1_firstGladCouple (t : Nat) (M : zM) : zO := F_X1_firstGladCouple_L2 t (fun  (M5 : zM) => zI (-1) M5) zN 0 M
set_option maxHeartbeats 1000000 in
set_option maxRecDepth 20000 in
theorem ct_X1_firstGladCouple_L17 (l : Launch) (hl : l.stackTraces = false) (G : zG) (x0 : Nat) (hx0 : zsh x0 = 1) (x1 : Int32) (K59 : zM → zO) (hK59 : ∀  (M : zM), zEv l G Y_X1_firstGladCouple 4 0 59 [(0, .ref (G.2.1 + x0)), (1, .int x1)] [] M (K59 M)) : ∀ (n : Nat) (x2 : Int32) (M : zM), zEv l G Y_X1_firstGladCouple 4 0 17 [(0, .ref (G.2.1 + x0)), (1, .int x1), (2, .int x2)] [] M (F_X1_firstGladCouple_L17 x0 x1 K59 n x2 M) := by
  intro n
  induction n with
  | zero => intro x2 M; exact ev_none
  | succ n ih =>
    intro x2 M
    show zEv l G Y_X1_firstGladCouple 4 0 17 [(0, .ref (G.2.1 + x0)), (1, .int x1), (2, .int x2)] [] M (zit ((M (zgr x0 0) 0) ≤ x2) (K59 M) (zbI (F_X1_wants x0 x1 x2 M) (fun r1 M1 => zjo (fun  (M3 : zM) => F_X1_firstGladCouple_L17 x0 x1 K59 n (x2 + 1) M3) (fun (k1 : zM → zO) => zit (r1 = 0) (k1 M1) (zbI (F_X1_wants x0 x2 x1 M1) (fun r2 M2 => zit (r2 = 0) (k1 M2) (zI ((10 * x1) + x2) M2)))))))
    refine ev_iload_n dd_X1_firstGladCouple_17 2 rfl ?_
    refine ev_aload_n dd_X1_firstGladCouple_18 0 rfl ?_
    refine ev_getR gf_RX1_25 dd_X1_firstGladCouple_19 hx0 (by decide) ?_
    refine ev_getI gf_RX1_51 dd_X1_firstGladCouple_22 (zg_1_0 hx0) (by decide) ?_
    refine ev_icmp_ge 59 dd_X1_firstGladCouple_25 (by decide) ?_ ?_
    · refine ev_lv (lv' := [(0, .ref (G.2.1 + x0)), (1, .int x1)]) [0, 1] rfl ?_
      exact hK59 _
    · refine ev_aload_n dd_X1_firstGladCouple_28 0 rfl ?_
      refine ev_iload_n dd_X1_firstGladCouple_29 1 rfl ?_
      refine ev_iload_n dd_X1_firstGladCouple_30 2 rfl ?_
      refine ev_callVI (As := [.int x1, .int x2]) cl_RX1_54 (ct_X1_wants l hl G x0 hx0 x1 x2 M) dd_X1_firstGladCouple_31 hx0 (by decide) (Nat.le_of_ble_eq_true rfl) (Nat.le_of_ble_eq_true rfl) rfl rfl (fun r1 M1 => ?_)
      refine ev_jo (fun (k1 : zM → zO) => ∀  (M3 : zM), zEv l G Y_X1_firstGladCouple 4 0 53 [(0, .ref (G.2.1 + x0)), (1, .int x1), (2, .int x2)] [] M3 (k1 M3)) ?_ (fun k1 hk1 => ?_)
      · intro M3
        refine ev_iinc (j := 2) (v := 1) (lv' := [(0, .ref (G.2.1 + x0)), (1, .int x1), (2, .int (x2 + 1))]) [1, 2, 0] dd_X1_firstGladCouple_53 rfl (by decide) (by decide) rfl ?_
        refine ev_goto 17 dd_X1_firstGladCouple_56 (by decide) ?_
        exact ih _ _
      · refine ev_if_eq 53 dd_X1_firstGladCouple_34 (by decide) ?_ ?_
        · exact hk1 _
        · refine ev_aload_n dd_X1_firstGladCouple_37 0 rfl ?_
          refine ev_iload_n dd_X1_firstGladCouple_38 2 rfl ?_
          refine ev_iload_n dd_X1_firstGladCouple_39 1 rfl ?_
          refine ev_callVI (As := [.int x2, .int x1]) cl_RX1_54 (ct_X1_wants l hl G x0 hx0 x2 x1 M1) dd_X1_firstGladCouple_40 hx0 (by decide) (Nat.le_of_ble_eq_true rfl) (Nat.le_of_ble_eq_true rfl) rfl rfl (fun r2 M2 => ?_)
          refine ev_if_eq 53 dd_X1_firstGladCouple_43 (by decide) ?_ ?_
          · exact hk1 _
          · refine ev_lv (lv' := [(1, .int x1), (2, .int x2)]) [1, 2] rfl ?_
            refine ev_bipush (v := 10) dd_X1_firstGladCouple_46 (by decide) ?_
            refine ev_iload_n dd_X1_firstGladCouple_48 0 rfl ?_
            refine ev_lv (lv' := [(2, .int x2)]) [1] rfl ?_
            refine ev_imul dd_X1_firstGladCouple_49 ?_
            refine ev_iload_n dd_X1_firstGladCouple_50 0 rfl ?_
            refine ev_lv (lv' := []) [] rfl ?_
            refine ev_iadd dd_X1_firstGladCouple_51 ?_
            exact ev_iret dd_X1_firstGladCouple_52 rfl (Nat.le_of_ble_eq_true rfl) rfl
set_option maxHeartbeats 1000000 in
set_option maxRecDepth 20000 in
theorem ct_X1_firstGladCouple_L2 (l : Launch) (hl : l.stackTraces = false) (G : zG) (x0 : Nat) (hx0 : zsh x0 = 1) (K65 : zM → zO) (hK65 : ∀  (M : zM), zEv l G Y_X1_firstGladCouple 4 0 65 [] [] M (K65 M)) : ∀ (n : Nat) (x1 : Int32) (M : zM), zEv l G Y_X1_firstGladCouple 4 0 2 [(0, .ref (G.2.1 + x0)), (1, .int x1)] [] M (F_X1_firstGladCouple_L2 x0 K65 n x1 M) := by
  intro n
  induction n with
  | zero => intro x1 M; exact ev_none
  | succ n ih =>
    intro x1 M
    show zEv l G Y_X1_firstGladCouple 4 0 2 [(0, .ref (G.2.1 + x0)), (1, .int x1)] [] M (zit ((M (zgr x0 0) 0) ≤ x1) (K65 M) (zlt (x1 + 1) (fun v1 => F_X1_firstGladCouple_L17 x0 x1 (fun  (M4 : zM) => F_X1_firstGladCouple_L2 x0 K65 n (x1 + 1) M4) zN v1 M)))
    refine ev_iload_n dd_X1_firstGladCouple_2 1 rfl ?_
    refine ev_aload_n dd_X1_firstGladCouple_3 0 rfl ?_
    refine ev_getR gf_RX1_25 dd_X1_firstGladCouple_4 hx0 (by decide) ?_
    refine ev_getI gf_RX1_51 dd_X1_firstGladCouple_7 (zg_1_0 hx0) (by decide) ?_
    refine ev_icmp_ge 65 dd_X1_firstGladCouple_10 (by decide) ?_ ?_
    · refine ev_lv (lv' := []) [] rfl ?_
      exact hK65 _
    · refine ev_iload_n dd_X1_firstGladCouple_13 1 rfl ?_
      refine ev_iconst (v := 1) dd_X1_firstGladCouple_14 (by decide) ?_
      refine ev_iadd dd_X1_firstGladCouple_15 ?_
      refine ev_topi (fun v1 => ?_)
      refine ev_istore_n (i := 2) (lv' := [(0, .ref (G.2.1 + x0)), (1, .int x1), (2, .int v1)]) [1, 2, 0] dd_X1_firstGladCouple_16 rfl (by decide) rfl ?_
      refine ct_X1_firstGladCouple_L17 l hl G x0 hx0 x1 _ (fun M4 => ?_) zN _ _
      refine ev_iinc (j := 1) (v := 1) (lv' := [(0, .ref (G.2.1 + x0)), (1, .int (x1 + 1))]) [1, 0] dd_X1_firstGladCouple_59 rfl (by decide) (by decide) rfl ?_
      refine ev_goto 2 dd_X1_firstGladCouple_62 (by decide) ?_
      exact ih _ _
set_option maxHeartbeats 1000000 in
set_option maxRecDepth 20000 in
theorem ct_X1_firstGladCouple (l : Launch) (hl : l.stackTraces = false) (G : zG) (t : Nat) (ht : zsh t = 1) (M : zM) : zMt l G Y_X1_firstGladCouple 4 [.ref (G.2.1 + t)] M (F_X1_firstGladCouple t M) := by
  refine zMt_of (by decide +kernel) (Nat.le_of_ble_eq_true rfl) ?_
  show zEv l G Y_X1_firstGladCouple 4 0 0 [(0, .ref (G.2.1 + t))] [] M (F_X1_firstGladCouple_L2 t (fun  (M5 : zM) => zI (-1) M5) zN 0 M)
  refine ev_iconst (v := 0) dd_X1_firstGladCouple_0 (by decide) ?_
  refine ev_istore_n (i := 1) (lv' := [(0, .ref (G.2.1 + t)), (1, .int 0)]) [1, 0] dd_X1_firstGladCouple_1 rfl (by decide) rfl ?_
  refine ct_X1_firstGladCouple_L2 l hl G t ht _ (fun M5 => ?_) zN _ _
  refine ev_iconst (v := (-1)) dd_X1_firstGladCouple_65 (by decide) ?_
  exact ev_iret dd_X1_firstGladCouple_66 rfl (Nat.le_of_ble_eq_true rfl) rfl
/-! X1_gladCouples -/
theorem dd_X1_gladCouples_0 : decode Y_X1_gladCouples.2.1 0 = .ok (.iconst 0, 1) := by decide +kernel
theorem dd_X1_gladCouples_1 : decode Y_X1_gladCouples.2.1 1 = .ok (.istore_n 1, 1) := by decide +kernel
theorem dd_X1_gladCouples_2 : decode Y_X1_gladCouples.2.1 2 = .ok (.iconst 0, 1) := by decide +kernel
theorem dd_X1_gladCouples_3 : decode Y_X1_gladCouples.2.1 3 = .ok (.istore_n 2, 1) := by decide +kernel
theorem dd_X1_gladCouples_4 : decode Y_X1_gladCouples.2.1 4 = .ok (.iload_n 2, 1) := by decide +kernel
theorem dd_X1_gladCouples_5 : decode Y_X1_gladCouples.2.1 5 = .ok (.aload_n 0, 1) := by decide +kernel
theorem dd_X1_gladCouples_6 : decode Y_X1_gladCouples.2.1 6 = .ok (.getfield 25, 3) := by decide +kernel
theorem dd_X1_gladCouples_9 : decode Y_X1_gladCouples.2.1 9 = .ok (.getfield 51, 3) := by decide +kernel
theorem dd_X1_gladCouples_12 : decode Y_X1_gladCouples.2.1 12 = .ok (.if_icmp .ge 56, 3) := by decide +kernel
theorem dd_X1_gladCouples_15 : decode Y_X1_gladCouples.2.1 15 = .ok (.iload_n 2, 1) := by decide +kernel
theorem dd_X1_gladCouples_16 : decode Y_X1_gladCouples.2.1 16 = .ok (.iconst 1, 1) := by decide +kernel
theorem dd_X1_gladCouples_17 : decode Y_X1_gladCouples.2.1 17 = .ok (.iadd, 1) := by decide +kernel
theorem dd_X1_gladCouples_18 : decode Y_X1_gladCouples.2.1 18 = .ok (.istore_n 3, 1) := by decide +kernel
theorem dd_X1_gladCouples_19 : decode Y_X1_gladCouples.2.1 19 = .ok (.iload_n 3, 1) := by decide +kernel
theorem dd_X1_gladCouples_20 : decode Y_X1_gladCouples.2.1 20 = .ok (.aload_n 0, 1) := by decide +kernel
theorem dd_X1_gladCouples_21 : decode Y_X1_gladCouples.2.1 21 = .ok (.getfield 25, 3) := by decide +kernel
theorem dd_X1_gladCouples_24 : decode Y_X1_gladCouples.2.1 24 = .ok (.getfield 51, 3) := by decide +kernel
theorem dd_X1_gladCouples_27 : decode Y_X1_gladCouples.2.1 27 = .ok (.if_icmp .ge 35, 3) := by decide +kernel
theorem dd_X1_gladCouples_30 : decode Y_X1_gladCouples.2.1 30 = .ok (.iload_n 1, 1) := by decide +kernel
theorem dd_X1_gladCouples_31 : decode Y_X1_gladCouples.2.1 31 = .ok (.aload_n 0, 1) := by decide +kernel
theorem dd_X1_gladCouples_32 : decode Y_X1_gladCouples.2.1 32 = .ok (.iload_n 2, 1) := by decide +kernel
theorem dd_X1_gladCouples_33 : decode Y_X1_gladCouples.2.1 33 = .ok (.iload_n 3, 1) := by decide +kernel
theorem dd_X1_gladCouples_34 : decode Y_X1_gladCouples.2.1 34 = .ok (.invokevirtual 54, 3) := by decide +kernel
theorem dd_X1_gladCouples_37 : decode Y_X1_gladCouples.2.1 37 = .ok (.ifCond .eq 16, 3) := by decide +kernel
theorem dd_X1_gladCouples_40 : decode Y_X1_gladCouples.2.1 40 = .ok (.aload_n 0, 1) := by decide +kernel
theorem dd_X1_gladCouples_41 : decode Y_X1_gladCouples.2.1 41 = .ok (.iload_n 3, 1) := by decide +kernel
theorem dd_X1_gladCouples_42 : decode Y_X1_gladCouples.2.1 42 = .ok (.iload_n 2, 1) := by decide +kernel
theorem dd_X1_gladCouples_43 : decode Y_X1_gladCouples.2.1 43 = .ok (.invokevirtual 54, 3) := by decide +kernel
theorem dd_X1_gladCouples_46 : decode Y_X1_gladCouples.2.1 46 = .ok (.ifCond .eq 7, 3) := by decide +kernel
theorem dd_X1_gladCouples_49 : decode Y_X1_gladCouples.2.1 49 = .ok (.iconst 1, 1) := by decide +kernel
theorem dd_X1_gladCouples_50 : decode Y_X1_gladCouples.2.1 50 = .ok (.goto 4, 3) := by decide +kernel
theorem dd_X1_gladCouples_53 : decode Y_X1_gladCouples.2.1 53 = .ok (.iconst 0, 1) := by decide +kernel
theorem dd_X1_gladCouples_54 : decode Y_X1_gladCouples.2.1 54 = .ok (.iadd, 1) := by decide +kernel
theorem dd_X1_gladCouples_55 : decode Y_X1_gladCouples.2.1 55 = .ok (.istore_n 1, 1) := by decide +kernel
theorem dd_X1_gladCouples_56 : decode Y_X1_gladCouples.2.1 56 = .ok (.iinc 3 1, 3) := by decide +kernel
theorem dd_X1_gladCouples_59 : decode Y_X1_gladCouples.2.1 59 = .ok (.goto (-40), 3) := by decide +kernel
theorem dd_X1_gladCouples_62 : decode Y_X1_gladCouples.2.1 62 = .ok (.iinc 2 1, 3) := by decide +kernel
theorem dd_X1_gladCouples_65 : decode Y_X1_gladCouples.2.1 65 = .ok (.goto (-61), 3) := by decide +kernel
theorem dd_X1_gladCouples_68 : decode Y_X1_gladCouples.2.1 68 = .ok (.iload_n 1, 1) := by decide +kernel
theorem dd_X1_gladCouples_69 : decode Y_X1_gladCouples.2.1 69 = .ok (.ireturn, 1) := by decide +kernel
def F_X1_gladCouples_L19 (x0 : Nat) (x2 : Int32) (K62 : Int32 → zM → zO) : Nat → Int32 → Int32 → zM → zO
  | 0, _, _, _ => none
  | n + 1, x1, x3, M => zit ((M (zgr x0 0) 0) ≤ x3) (K62 x1 M) (zbI (F_X1_wants x0 x2 x3 M) (fun r1 M1 => zjo (fun (w1 : Int32) (M4 : zM) => zlt (x1 + w1) (fun v2 => F_X1_gladCouples_L19 x0 x2 K62 n v2 (x3 + 1) M4)) (fun (k1 : Int32 → zM → zO) => zjo (fun  (M3 : zM) => k1 0 M3) (fun (k2 : zM → zO) => zit (r1 = 0) (k2 M1) (zbI (F_X1_wants x0 x3 x2 M1) (fun r2 M2 => zit (r2 = 0) (k2 M2) (k1 1 M2)))))))
def F_X1_gladCouples_L4 (x0 : Nat) (K68 : Int32 → zM → zO) : Nat → Int32 → Int32 → zM → zO
  | 0, _, _, _ => none
  | n + 1, x1, x2, M => zit ((M (zgr x0 0) 0) ≤ x2) (K68 x1 M) (zlt (x2 + 1) (fun v1 => F_X1_gladCouples_L19 x0 x2 (fun (y1 : Int32) (M5 : zM) => F_X1_gladCouples_L4 x0 K68 n y1 (x2 + 1) M5) zN x1 v1 M))
def F_X1_gladCouples (t : Nat) (M : zM) : zO := F_X1_gladCouples_L4 t (fun (y2 : Int32) (M6 : zM) => zI y2 M6) zN 0 0 M
set_option maxHeartbeats 1000000 in
set_option maxRecDepth 20000 in
theorem ct_X1_gladCouples_L19 (l : Launch) (hl : l.stackTraces = false) (G : zG) (x0 : Nat) (hx0 : zsh x0 = 1) (x2 : Int32) (K62 : Int32 → zM → zO) (hK62 : ∀ (x1 : Int32) (M : zM), zEv l G Y_X1_gladCouples 4 0 62 [(0, .ref (G.2.1 + x0)), (1, .int x1), (2, .int x2)] [] M (K62 x1 M)) : ∀ (n : Nat) (x1 : Int32) (x3 : Int32) (M : zM), zEv l G Y_X1_gladCouples 4 0 19 [(0, .ref (G.2.1 + x0)), (1, .int x1), (2, .int x2), (3, .int x3)] [] M (F_X1_gladCouples_L19 x0 x2 K62 n x1 x3 M) := by
  intro n
  induction n with
  | zero => intro x1 x3 M; exact ev_none
  | succ n ih =>
    intro x1 x3 M
    show zEv l G Y_X1_gladCouples 4 0 19 [(0, .ref (G.2.1 + x0)), (1, .int x1), (2, .int x2), (3, .int x3)] [] M (zit ((M (zgr x0 0) 0) ≤ x3) (K62 x1 M) (zbI (F_X1_wants x0 x2 x3 M) (fun r1 M1 => zjo (fun (w1 : Int32) (M4 : zM) => zlt (x1 + w1) (fun v2 => F_X1_gladCouples_L19 x0 x2 K62 n v2 (x3 + 1) M4)) (fun (k1 : Int32 → zM → zO) => zjo (fun  (M3 : zM) => k1 0 M3) (fun (k2 : zM → zO) => zit (r1 = 0) (k2 M1) (zbI (F_X1_wants x0 x3 x2 M1) (fun r2 M2 => zit (r2 = 0) (k2 M2) (k1 1 M2))))))))
    refine ev_iload_n dd_X1_gladCouples_19 3 rfl ?_
    refine ev_aload_n dd_X1_gladCouples_20 0 rfl ?_
    refine ev_getR gf_RX1_25 dd_X1_gladCouples_21 hx0 (by decide) ?_
    refine ev_getI gf_RX1_51 dd_X1_gladCouples_24 (zg_1_0 hx0) (by decide) ?_
    refine ev_icmp_ge 62 dd_X1_gladCouples_27 (by decide) ?_ ?_
    · refine ev_lv (lv' := [(0, .ref (G.2.1 + x0)), (1, .int x1), (2, .int x2)]) [0, 1, 2] rfl ?_
      exact hK62 _ _
    · refine ev_iload_n dd_X1_gladCouples_30 1 rfl ?_
      refine ev_lv (lv' := [(0, .ref (G.2.1 + x0)), (2, .int x2), (3, .int x3)]) [0, 2, 3] rfl ?_
      refine ev_aload_n dd_X1_gladCouples_31 0 rfl ?_
      refine ev_iload_n dd_X1_gladCouples_32 1 rfl ?_
      refine ev_iload_n dd_X1_gladCouples_33 2 rfl ?_
      refine ev_callVI (As := [.int x2, .int x3]) cl_RX1_54 (ct_X1_wants l hl G x0 hx0 x2 x3 M) dd_X1_gladCouples_34 hx0 (by decide) (Nat.le_of_ble_eq_true rfl) (Nat.le_of_ble_eq_true rfl) rfl rfl (fun r1 M1 => ?_)
      refine ev_jo (fun (k1 : Int32 → zM → zO) => ∀ (w1 : Int32) (M4 : zM), zEv l G Y_X1_gladCouples 4 0 54 [(0, .ref (G.2.1 + x0)), (2, .int x2), (3, .int x3)] [.int w1, .int x1] M4 (k1 w1 M4)) ?_ (fun k1 hk1 => ?_)
      · intro w1 M4
        refine ev_iadd dd_X1_gladCouples_54 ?_
        refine ev_topi (fun v2 => ?_)
        refine ev_istore_n (i := 1) (lv' := [(0, .ref (G.2.1 + x0)), (1, .int v2), (2, .int x2), (3, .int x3)]) [1, 0, 2, 3] dd_X1_gladCouples_55 rfl (by decide) rfl ?_
        refine ev_iinc (j := 3) (v := 1) (lv' := [(0, .ref (G.2.1 + x0)), (1, .int v2), (2, .int x2), (3, .int (x3 + 1))]) [1, 2, 3, 0] dd_X1_gladCouples_56 rfl (by decide) (by decide) rfl ?_
        refine ev_goto 19 dd_X1_gladCouples_59 (by decide) ?_
        exact ih _ _ _
      · refine ev_jo (fun (k2 : zM → zO) => ∀  (M3 : zM), zEv l G Y_X1_gladCouples 4 0 53 [(0, .ref (G.2.1 + x0)), (2, .int x2), (3, .int x3)] [.int x1] M3 (k2 M3)) ?_ (fun k2 hk2 => ?_)
        · intro M3
          refine ev_iconst (v := 0) dd_X1_gladCouples_53 (by decide) ?_
          exact hk1 _ _
        · refine ev_if_eq 53 dd_X1_gladCouples_37 (by decide) ?_ ?_
          · exact hk2 _
          · refine ev_aload_n dd_X1_gladCouples_40 0 rfl ?_
            refine ev_iload_n dd_X1_gladCouples_41 2 rfl ?_
            refine ev_iload_n dd_X1_gladCouples_42 1 rfl ?_
            refine ev_callVI (As := [.int x3, .int x2]) cl_RX1_54 (ct_X1_wants l hl G x0 hx0 x3 x2 M1) dd_X1_gladCouples_43 hx0 (by decide) (Nat.le_of_ble_eq_true rfl) (Nat.le_of_ble_eq_true rfl) rfl rfl (fun r2 M2 => ?_)
            refine ev_if_eq 53 dd_X1_gladCouples_46 (by decide) ?_ ?_
            · exact hk2 _
            · refine ev_iconst (v := 1) dd_X1_gladCouples_49 (by decide) ?_
              refine ev_goto 54 dd_X1_gladCouples_50 (by decide) ?_
              exact hk1 _ _
set_option maxHeartbeats 1000000 in
set_option maxRecDepth 20000 in
theorem ct_X1_gladCouples_L4 (l : Launch) (hl : l.stackTraces = false) (G : zG) (x0 : Nat) (hx0 : zsh x0 = 1) (K68 : Int32 → zM → zO) (hK68 : ∀ (x1 : Int32) (M : zM), zEv l G Y_X1_gladCouples 4 0 68 [(1, .int x1)] [] M (K68 x1 M)) : ∀ (n : Nat) (x1 : Int32) (x2 : Int32) (M : zM), zEv l G Y_X1_gladCouples 4 0 4 [(0, .ref (G.2.1 + x0)), (1, .int x1), (2, .int x2)] [] M (F_X1_gladCouples_L4 x0 K68 n x1 x2 M) := by
  intro n
  induction n with
  | zero => intro x1 x2 M; exact ev_none
  | succ n ih =>
    intro x1 x2 M
    show zEv l G Y_X1_gladCouples 4 0 4 [(0, .ref (G.2.1 + x0)), (1, .int x1), (2, .int x2)] [] M (zit ((M (zgr x0 0) 0) ≤ x2) (K68 x1 M) (zlt (x2 + 1) (fun v1 => F_X1_gladCouples_L19 x0 x2 (fun (y1 : Int32) (M5 : zM) => F_X1_gladCouples_L4 x0 K68 n y1 (x2 + 1) M5) zN x1 v1 M)))
    refine ev_iload_n dd_X1_gladCouples_4 2 rfl ?_
    refine ev_aload_n dd_X1_gladCouples_5 0 rfl ?_
    refine ev_getR gf_RX1_25 dd_X1_gladCouples_6 hx0 (by decide) ?_
    refine ev_getI gf_RX1_51 dd_X1_gladCouples_9 (zg_1_0 hx0) (by decide) ?_
    refine ev_icmp_ge 68 dd_X1_gladCouples_12 (by decide) ?_ ?_
    · refine ev_lv (lv' := [(1, .int x1)]) [1] rfl ?_
      exact hK68 _ _
    · refine ev_iload_n dd_X1_gladCouples_15 2 rfl ?_
      refine ev_iconst (v := 1) dd_X1_gladCouples_16 (by decide) ?_
      refine ev_iadd dd_X1_gladCouples_17 ?_
      refine ev_topi (fun v1 => ?_)
      refine ev_istore_n (i := 3) (lv' := [(0, .ref (G.2.1 + x0)), (1, .int x1), (2, .int x2), (3, .int v1)]) [1, 2, 3, 0] dd_X1_gladCouples_18 rfl (by decide) rfl ?_
      refine ct_X1_gladCouples_L19 l hl G x0 hx0 x2 _ (fun y1 M5 => ?_) zN _ _ _
      refine ev_iinc (j := 2) (v := 1) (lv' := [(0, .ref (G.2.1 + x0)), (1, .int y1), (2, .int (x2 + 1))]) [1, 2, 0] dd_X1_gladCouples_62 rfl (by decide) (by decide) rfl ?_
      refine ev_goto 4 dd_X1_gladCouples_65 (by decide) ?_
      exact ih _ _ _
set_option maxHeartbeats 1000000 in
set_option maxRecDepth 20000 in
theorem ct_X1_gladCouples (l : Launch) (hl : l.stackTraces = false) (G : zG) (t : Nat) (ht : zsh t = 1) (M : zM) : zMt l G Y_X1_gladCouples 4 [.ref (G.2.1 + t)] M (F_X1_gladCouples t M) := by
  refine zMt_of (by decide +kernel) (Nat.le_of_ble_eq_true rfl) ?_
  show zEv l G Y_X1_gladCouples 4 0 0 [(0, .ref (G.2.1 + t))] [] M (F_X1_gladCouples_L4 t (fun (y2 : Int32) (M6 : zM) => zI y2 M6) zN 0 0 M)
  refine ev_iconst (v := 0) dd_X1_gladCouples_0 (by decide) ?_
  refine ev_istore_n (i := 1) (lv' := [(0, .ref (G.2.1 + t)), (1, .int 0)]) [1, 0] dd_X1_gladCouples_1 rfl (by decide) rfl ?_
  refine ev_iconst (v := 0) dd_X1_gladCouples_2 (by decide) ?_
  refine ev_istore_n (i := 2) (lv' := [(0, .ref (G.2.1 + t)), (1, .int 0), (2, .int 0)]) [1, 2, 0] dd_X1_gladCouples_3 rfl (by decide) rfl ?_
  refine ct_X1_gladCouples_L4 l hl G t ht _ (fun y2 M6 => ?_) zN _ _ _
  refine ev_iload_n dd_X1_gladCouples_68 0 rfl ?_
  refine ev_lv (lv' := []) [] rfl ?_
  exact ev_iret dd_X1_gladCouples_69 rfl (Nat.le_of_ble_eq_true rfl) rfl
/-! X11_glad -/
theorem dd_X11_glad_0 : decode Y_X11_glad.2.1 0 = .ok (.iload_n 1, 1) := by decide +kernel
theorem dd_X11_glad_1 : decode Y_X11_glad.2.1 1 = .ok (.invokestatic 245, 3) := by decide +kernel
theorem dd_X11_glad_4 : decode Y_X11_glad.2.1 4 = .ok (.iload_n 1, 1) := by decide +kernel
theorem dd_X11_glad_5 : decode Y_X11_glad.2.1 5 = .ok (.ifCond .ne 13, 3) := by decide +kernel
theorem dd_X11_glad_8 : decode Y_X11_glad.2.1 8 = .ok (.aload_n 0, 1) := by decide +kernel
theorem dd_X11_glad_9 : decode Y_X11_glad.2.1 9 = .ok (.getfield 65, 3) := by decide +kernel
theorem dd_X11_glad_12 : decode Y_X11_glad.2.1 12 = .ok (.invokevirtual 248, 3) := by decide +kernel
theorem dd_X11_glad_15 : decode Y_X11_glad.2.1 15 = .ok (.goto 10, 3) := by decide +kernel
theorem dd_X11_glad_18 : decode Y_X11_glad.2.1 18 = .ok (.aload_n 0, 1) := by decide +kernel
theorem dd_X11_glad_19 : decode Y_X11_glad.2.1 19 = .ok (.getfield 65, 3) := by decide +kernel
theorem dd_X11_glad_22 : decode Y_X11_glad.2.1 22 = .ok (.invokevirtual 251, 3) := by decide +kernel
theorem dd_X11_glad_25 : decode Y_X11_glad.2.1 25 = .ok (.ireturn, 1) := by decide +kernel
def F_X11_glad (t : Nat) (a1 : Int32) (M : zM) : zO := zbV (F_X11_needFirstOrCount a1 M) (fun M1 => zjo (fun (w1 : Int32) (M4 : zM) => zI w1 M4) (fun (k1 : Int32 → zM → zO) => zit (a1 = 0) (zbI (F_X1_gladCouples (zgr t 9) M1) (fun r2 M3 => k1 r2 M3)) (zbI (F_X1_firstGladCouple (zgr t 9) M1) (fun r1 M2 => k1 r1 M2))))
set_option maxHeartbeats 1000000 in
set_option maxRecDepth 20000 in
theorem ct_X11_glad (l : Launch) (hl : l.stackTraces = false) (G : zG) (t : Nat) (ht : zsh t = 11) (a1 : Int32) (M : zM) : zMt l G Y_X11_glad 5 [.ref (G.2.1 + t), .int a1] M (F_X11_glad t a1 M) := by
  refine zMt_of (by decide +kernel) (Nat.le_of_ble_eq_true rfl) ?_
  show zEv l G Y_X11_glad 5 0 0 [(0, .ref (G.2.1 + t)), (1, .int a1)] [] M (zbV (F_X11_needFirstOrCount a1 M) (fun M1 => zjo (fun (w1 : Int32) (M4 : zM) => zI w1 M4) (fun (k1 : Int32 → zM → zO) => zit (a1 = 0) (zbI (F_X1_gladCouples (zgr t 9) M1) (fun r2 M3 => k1 r2 M3)) (zbI (F_X1_firstGladCouple (zgr t 9) M1) (fun r1 M2 => k1 r1 M2)))))
  refine ev_iload_n dd_X11_glad_0 1 rfl ?_
  refine ev_callSV (As := [.int a1]) cl_RX11_245 (ct_X11_needFirstOrCount l hl G a1 M) dd_X11_glad_1 (by decide) (Nat.le_of_ble_eq_true rfl) (Nat.le_of_ble_eq_true rfl) rfl rfl (fun M1 => ?_)
  refine ev_iload_n dd_X11_glad_4 1 rfl ?_
  refine ev_lv (lv' := [(0, .ref (G.2.1 + t))]) [0] rfl ?_
  refine ev_jo (fun (k1 : Int32 → zM → zO) => ∀ (w1 : Int32) (M4 : zM), zEv l G Y_X11_glad 5 1 25 [] [.int w1] M4 (k1 w1 M4)) ?_ (fun k1 hk1 => ?_)
  · intro w1 M4
    exact ev_iret dd_X11_glad_25 rfl (Nat.le_of_ble_eq_true rfl) rfl
  · refine ev_if_ne 18 dd_X11_glad_5 (by decide) ?_ ?_
    · refine ev_aload_n dd_X11_glad_18 0 rfl ?_
      refine ev_lv (lv' := []) [] rfl ?_
      refine ev_getR gf_RX11_65 dd_X11_glad_19 ht (by decide) ?_
      refine ev_callVI (As := []) cl_RX11_251 (ct_X1_firstGladCouple l hl G (zgr t 9) (zg_11_9 ht) M1) dd_X11_glad_22 (zg_11_9 ht) (by decide) (Nat.le_of_ble_eq_true rfl) (Nat.le_of_ble_eq_true rfl) rfl rfl (fun r1 M2 => ?_)
      exact hk1 _ _
    · refine ev_aload_n dd_X11_glad_8 0 rfl ?_
      refine ev_lv (lv' := []) [] rfl ?_
      refine ev_getR gf_RX11_65 dd_X11_glad_9 ht (by decide) ?_
      refine ev_callVI (As := []) cl_RX11_248 (ct_X1_gladCouples l hl G (zgr t 9) (zg_11_9 ht) M1) dd_X11_glad_12 (zg_11_9 ht) (by decide) (Nat.le_of_ble_eq_true rfl) (Nat.le_of_ble_eq_true rfl) rfl rfl (fun r2 M3 => ?_)
      refine ev_goto 25 dd_X11_glad_15 (by decide) ?_
      exact hk1 _ _
/-! X11_has -/
theorem dd_X11_has_0 : decode Y_X11_has.2.1 0 = .ok (.aload_n 0, 1) := by decide +kernel
theorem dd_X11_has_1 : decode Y_X11_has.2.1 1 = .ok (.iload_n 1, 1) := by decide +kernel
theorem dd_X11_has_2 : decode Y_X11_has.2.1 2 = .ok (.invokevirtual 203, 3) := by decide +kernel
theorem dd_X11_has_5 : decode Y_X11_has.2.1 5 = .ok (.aload_n 0, 1) := by decide +kernel
theorem dd_X11_has_6 : decode Y_X11_has.2.1 6 = .ok (.getfield 40, 3) := by decide +kernel
theorem dd_X11_has_9 : decode Y_X11_has.2.1 9 = .ok (.getfield 206, 3) := by decide +kernel
theorem dd_X11_has_12 : decode Y_X11_has.2.1 12 = .ok (.iload_n 1, 1) := by decide +kernel
theorem dd_X11_has_13 : decode Y_X11_has.2.1 13 = .ok (.iaload, 1) := by decide +kernel
theorem dd_X11_has_14 : decode Y_X11_has.2.1 14 = .ok (.ireturn, 1) := by decide +kernel
def F_X11_has (t : Nat) (a1 : Int32) (M : zM) : zO := zbV (F_X11_needIsle t a1 M) (fun M1 => zck (zin a1 8) (zI (M1 (zgr (zgr t 4) 1) (zix a1)) M1))
set_option maxHeartbeats 1000000 in
set_option maxRecDepth 20000 in
theorem ct_X11_has (l : Launch) (hl : l.stackTraces = false) (G : zG) (t : Nat) (ht : zsh t = 11) (a1 : Int32) (M : zM) : zMt l G Y_X11_has 2 [.ref (G.2.1 + t), .int a1] M (F_X11_has t a1 M) := by
  refine zMt_of (by decide +kernel) (Nat.le_of_ble_eq_true rfl) ?_
  show zEv l G Y_X11_has 2 0 0 [(0, .ref (G.2.1 + t)), (1, .int a1)] [] M (zbV (F_X11_needIsle t a1 M) (fun M1 => zck (zin a1 8) (zI (M1 (zgr (zgr t 4) 1) (zix a1)) M1)))
  refine ev_aload_n dd_X11_has_0 0 rfl ?_
  refine ev_iload_n dd_X11_has_1 1 rfl ?_
  refine ev_callVV (As := [.int a1]) cl_RX11_203 (ct_X11_needIsle l hl G t ht a1 M) dd_X11_has_2 ht (by decide) (Nat.le_of_ble_eq_true rfl) (Nat.le_of_ble_eq_true rfl) rfl rfl (fun M1 => ?_)
  refine ev_aload_n dd_X11_has_5 0 rfl ?_
  refine ev_lv (lv' := [(1, .int a1)]) [1] rfl ?_
  refine ev_getR gf_RX11_40 dd_X11_has_6 ht (by decide) ?_
  refine ev_getR gf_RX11_206 dd_X11_has_9 (zg_11_4 ht) (by decide) ?_
  refine ev_iload_n dd_X11_has_12 0 rfl ?_
  refine ev_lv (lv' := []) [] rfl ?_
  refine ev_iald dd_X11_has_13 ((zg_10_1 (zg_11_4 ht)).1) ((zg_10_1 (zg_11_4 ht)).2) ?_
  exact ev_iret dd_X11_has_14 rfl (Nat.le_of_ble_eq_true rfl) rfl
/-! X3_copy -/
theorem dd_X3_copy_0 : decode Y_X3_copy.2.1 0 = .ok (.aload_n 0, 1) := by decide +kernel
theorem dd_X3_copy_1 : decode Y_X3_copy.2.1 1 = .ok (.aload_n 1, 1) := by decide +kernel
theorem dd_X3_copy_2 : decode Y_X3_copy.2.1 2 = .ok (.getfield 9, 3) := by decide +kernel
theorem dd_X3_copy_5 : decode Y_X3_copy.2.1 5 = .ok (.putfield 9, 3) := by decide +kernel
theorem dd_X3_copy_8 : decode Y_X3_copy.2.1 8 = .ok (.aload_n 0, 1) := by decide +kernel
theorem dd_X3_copy_9 : decode Y_X3_copy.2.1 9 = .ok (.aload_n 1, 1) := by decide +kernel
theorem dd_X3_copy_10 : decode Y_X3_copy.2.1 10 = .ok (.getfield 15, 3) := by decide +kernel
theorem dd_X3_copy_13 : decode Y_X3_copy.2.1 13 = .ok (.putfield 15, 3) := by decide +kernel
theorem dd_X3_copy_16 : decode Y_X3_copy.2.1 16 = .ok (.aload_n 1, 1) := by decide +kernel
theorem dd_X3_copy_17 : decode Y_X3_copy.2.1 17 = .ok (.getfield 18, 3) := by decide +kernel
theorem dd_X3_copy_20 : decode Y_X3_copy.2.1 20 = .ok (.iconst 0, 1) := by decide +kernel
theorem dd_X3_copy_21 : decode Y_X3_copy.2.1 21 = .ok (.aload_n 0, 1) := by decide +kernel
theorem dd_X3_copy_22 : decode Y_X3_copy.2.1 22 = .ok (.getfield 18, 3) := by decide +kernel
theorem dd_X3_copy_25 : decode Y_X3_copy.2.1 25 = .ok (.iconst 0, 1) := by decide +kernel
theorem dd_X3_copy_26 : decode Y_X3_copy.2.1 26 = .ok (.bipush 40, 2) := by decide +kernel
theorem dd_X3_copy_28 : decode Y_X3_copy.2.1 28 = .ok (.invokestatic 37, 3) := by decide +kernel
theorem dd_X3_copy_31 : decode Y_X3_copy.2.1 31 = .ok (.aload_n 1, 1) := by decide +kernel
theorem dd_X3_copy_32 : decode Y_X3_copy.2.1 32 = .ok (.getfield 22, 3) := by decide +kernel
theorem dd_X3_copy_35 : decode Y_X3_copy.2.1 35 = .ok (.iconst 0, 1) := by decide +kernel
theorem dd_X3_copy_36 : decode Y_X3_copy.2.1 36 = .ok (.aload_n 0, 1) := by decide +kernel
theorem dd_X3_copy_37 : decode Y_X3_copy.2.1 37 = .ok (.getfield 22, 3) := by decide +kernel
theorem dd_X3_copy_40 : decode Y_X3_copy.2.1 40 = .ok (.iconst 0, 1) := by decide +kernel
theorem dd_X3_copy_41 : decode Y_X3_copy.2.1 41 = .ok (.bipush 40, 2) := by decide +kernel
theorem dd_X3_copy_43 : decode Y_X3_copy.2.1 43 = .ok (.invokestatic 37, 3) := by decide +kernel
theorem dd_X3_copy_46 : decode Y_X3_copy.2.1 46 = .ok (.aload_n 1, 1) := by decide +kernel
theorem dd_X3_copy_47 : decode Y_X3_copy.2.1 47 = .ok (.getfield 25, 3) := by decide +kernel
theorem dd_X3_copy_50 : decode Y_X3_copy.2.1 50 = .ok (.iconst 0, 1) := by decide +kernel
theorem dd_X3_copy_51 : decode Y_X3_copy.2.1 51 = .ok (.aload_n 0, 1) := by decide +kernel
theorem dd_X3_copy_52 : decode Y_X3_copy.2.1 52 = .ok (.getfield 25, 3) := by decide +kernel
theorem dd_X3_copy_55 : decode Y_X3_copy.2.1 55 = .ok (.iconst 0, 1) := by decide +kernel
theorem dd_X3_copy_56 : decode Y_X3_copy.2.1 56 = .ok (.bipush 40, 2) := by decide +kernel
theorem dd_X3_copy_58 : decode Y_X3_copy.2.1 58 = .ok (.invokestatic 37, 3) := by decide +kernel
theorem dd_X3_copy_61 : decode Y_X3_copy.2.1 61 = .ok (.aload_n 1, 1) := by decide +kernel
theorem dd_X3_copy_62 : decode Y_X3_copy.2.1 62 = .ok (.getfield 28, 3) := by decide +kernel
theorem dd_X3_copy_65 : decode Y_X3_copy.2.1 65 = .ok (.iconst 0, 1) := by decide +kernel
theorem dd_X3_copy_66 : decode Y_X3_copy.2.1 66 = .ok (.aload_n 0, 1) := by decide +kernel
theorem dd_X3_copy_67 : decode Y_X3_copy.2.1 67 = .ok (.getfield 28, 3) := by decide +kernel
theorem dd_X3_copy_70 : decode Y_X3_copy.2.1 70 = .ok (.iconst 0, 1) := by decide +kernel
theorem dd_X3_copy_71 : decode Y_X3_copy.2.1 71 = .ok (.bipush 40, 2) := by decide +kernel
theorem dd_X3_copy_73 : decode Y_X3_copy.2.1 73 = .ok (.invokestatic 37, 3) := by decide +kernel
theorem dd_X3_copy_76 : decode Y_X3_copy.2.1 76 = .ok (.aload_n 1, 1) := by decide +kernel
theorem dd_X3_copy_77 : decode Y_X3_copy.2.1 77 = .ok (.getfield 31, 3) := by decide +kernel
theorem dd_X3_copy_80 : decode Y_X3_copy.2.1 80 = .ok (.iconst 0, 1) := by decide +kernel
theorem dd_X3_copy_81 : decode Y_X3_copy.2.1 81 = .ok (.aload_n 0, 1) := by decide +kernel
theorem dd_X3_copy_82 : decode Y_X3_copy.2.1 82 = .ok (.getfield 31, 3) := by decide +kernel
theorem dd_X3_copy_85 : decode Y_X3_copy.2.1 85 = .ok (.iconst 0, 1) := by decide +kernel
theorem dd_X3_copy_86 : decode Y_X3_copy.2.1 86 = .ok (.bipush 8, 2) := by decide +kernel
theorem dd_X3_copy_88 : decode Y_X3_copy.2.1 88 = .ok (.invokestatic 37, 3) := by decide +kernel
theorem dd_X3_copy_91 : decode Y_X3_copy.2.1 91 = .ok (.aload_n 1, 1) := by decide +kernel
theorem dd_X3_copy_92 : decode Y_X3_copy.2.1 92 = .ok (.getfield 34, 3) := by decide +kernel
theorem dd_X3_copy_95 : decode Y_X3_copy.2.1 95 = .ok (.iconst 0, 1) := by decide +kernel
theorem dd_X3_copy_96 : decode Y_X3_copy.2.1 96 = .ok (.aload_n 0, 1) := by decide +kernel
theorem dd_X3_copy_97 : decode Y_X3_copy.2.1 97 = .ok (.getfield 34, 3) := by decide +kernel
theorem dd_X3_copy_100 : decode Y_X3_copy.2.1 100 = .ok (.iconst 0, 1) := by decide +kernel
theorem dd_X3_copy_101 : decode Y_X3_copy.2.1 101 = .ok (.bipush 8, 2) := by decide +kernel
theorem dd_X3_copy_103 : decode Y_X3_copy.2.1 103 = .ok (.invokestatic 37, 3) := by decide +kernel
theorem dd_X3_copy_106 : decode Y_X3_copy.2.1 106 = .ok (.return_, 1) := by decide +kernel
def F_X3_copy (t : Nat) (a1 : Nat) (M : zM) : zO := zst (zup M t 0 (M a1 0)) (fun M1 => zst (zup M1 t 1 (M1 a1 1)) (fun M2 => zck (zcpk 0 0 40 40 40) (zst (zupA M2 (zgr t 2) (va_cpy (M2 (zgr a1 2)) (M2 (zgr t 2)) (zix 0) (zix 0) (zix 40))) (fun M3 => zck (zcpk 0 0 40 40 40) (zst (zupA M3 (zgr t 3) (va_cpy (M3 (zgr a1 3)) (M3 (zgr t 3)) (zix 0) (zix 0) (zix 40))) (fun M4 => zck (zcpk 0 0 40 40 40) (zst (zupA M4 (zgr t 4) (va_cpy (M4 (zgr a1 4)) (M4 (zgr t 4)) (zix 0) (zix 0) (zix 40))) (fun M5 => zck (zcpk 0 0 40 40 40) (zst (zupA M5 (zgr t 5) (va_cpy (M5 (zgr a1 5)) (M5 (zgr t 5)) (zix 0) (zix 0) (zix 40))) (fun M6 => zck (zcpk 0 0 8 8 8) (zst (zupA M6 (zgr t 6) (va_cpy (M6 (zgr a1 6)) (M6 (zgr t 6)) (zix 0) (zix 0) (zix 8))) (fun M7 => zck (zcpk 0 0 8 8 8) (zst (zupA M7 (zgr t 7) (va_cpy (M7 (zgr a1 7)) (M7 (zgr t 7)) (zix 0) (zix 0) (zix 8))) (fun M8 => zV M8))))))))))))))
set_option maxHeartbeats 1000000 in
set_option maxRecDepth 20000 in
theorem ct_X3_copy (l : Launch) (hl : l.stackTraces = false) (G : zG) (t : Nat) (ht : zsh t = 3) (a1 : Nat) (ha1 : zsh a1 = 3) (M : zM) : zMt l G Y_X3_copy 8 [.ref (G.2.1 + t), .ref (G.2.1 + a1)] M (F_X3_copy t a1 M) := by
  refine zMt_of (by decide +kernel) (Nat.le_of_ble_eq_true rfl) ?_
  show zEv l G Y_X3_copy 8 0 0 [(0, .ref (G.2.1 + t)), (1, .ref (G.2.1 + a1))] [] M (zst (zup M t 0 (M a1 0)) (fun M1 => zst (zup M1 t 1 (M1 a1 1)) (fun M2 => zck (zcpk 0 0 40 40 40) (zst (zupA M2 (zgr t 2) (va_cpy (M2 (zgr a1 2)) (M2 (zgr t 2)) (zix 0) (zix 0) (zix 40))) (fun M3 => zck (zcpk 0 0 40 40 40) (zst (zupA M3 (zgr t 3) (va_cpy (M3 (zgr a1 3)) (M3 (zgr t 3)) (zix 0) (zix 0) (zix 40))) (fun M4 => zck (zcpk 0 0 40 40 40) (zst (zupA M4 (zgr t 4) (va_cpy (M4 (zgr a1 4)) (M4 (zgr t 4)) (zix 0) (zix 0) (zix 40))) (fun M5 => zck (zcpk 0 0 40 40 40) (zst (zupA M5 (zgr t 5) (va_cpy (M5 (zgr a1 5)) (M5 (zgr t 5)) (zix 0) (zix 0) (zix 40))) (fun M6 => zck (zcpk 0 0 8 8 8) (zst (zupA M6 (zgr t 6) (va_cpy (M6 (zgr a1 6)) (M6 (zgr t 6)) (zix 0) (zix 0) (zix 8))) (fun M7 => zck (zcpk 0 0 8 8 8) (zst (zupA M7 (zgr t 7) (va_cpy (M7 (zgr a1 7)) (M7 (zgr t 7)) (zix 0) (zix 0) (zix 8))) (fun M8 => zV M8)))))))))))))))
  refine ev_aload_n dd_X3_copy_0 0 rfl ?_
  refine ev_aload_n dd_X3_copy_1 1 rfl ?_
  refine ev_getI gf_RX3_9 dd_X3_copy_2 ha1 (by decide) ?_
  refine ev_putI gw_RX3_9 dd_X3_copy_5 ht (by decide) ?_
  refine ev_st (fun M1 => ?_)
  refine ev_aload_n dd_X3_copy_8 0 rfl ?_
  refine ev_aload_n dd_X3_copy_9 1 rfl ?_
  refine ev_getI gf_RX3_15 dd_X3_copy_10 ha1 (by decide) ?_
  refine ev_putI gw_RX3_15 dd_X3_copy_13 ht (by decide) ?_
  refine ev_st (fun M2 => ?_)
  refine ev_aload_n dd_X3_copy_16 1 rfl ?_
  refine ev_getR gf_RX3_18 dd_X3_copy_17 ha1 (by decide) ?_
  refine ev_iconst (v := 0) dd_X3_copy_20 (by decide) ?_
  refine ev_aload_n dd_X3_copy_21 0 rfl ?_
  refine ev_getR gf_RX3_18 dd_X3_copy_22 ht (by decide) ?_
  refine ev_iconst (v := 0) dd_X3_copy_25 (by decide) ?_
  refine ev_bipush (v := 40) dd_X3_copy_26 (by decide) ?_
  refine ev_copyi cw_RX3_37 dd_X3_copy_28 ((zg_3_2 ha1).1) ((zg_3_2 ha1).2) ((zg_3_2 ht).1) ((zg_3_2 ht).2) (Nat.le_of_ble_eq_true rfl) ?_
  refine ev_st (fun M3 => ?_)
  refine ev_aload_n dd_X3_copy_31 1 rfl ?_
  refine ev_getR gf_RX3_22 dd_X3_copy_32 ha1 (by decide) ?_
  refine ev_iconst (v := 0) dd_X3_copy_35 (by decide) ?_
  refine ev_aload_n dd_X3_copy_36 0 rfl ?_
  refine ev_getR gf_RX3_22 dd_X3_copy_37 ht (by decide) ?_
  refine ev_iconst (v := 0) dd_X3_copy_40 (by decide) ?_
  refine ev_bipush (v := 40) dd_X3_copy_41 (by decide) ?_
  refine ev_copyi cw_RX3_37 dd_X3_copy_43 ((zg_3_3 ha1).1) ((zg_3_3 ha1).2) ((zg_3_3 ht).1) ((zg_3_3 ht).2) (Nat.le_of_ble_eq_true rfl) ?_
  refine ev_st (fun M4 => ?_)
  refine ev_aload_n dd_X3_copy_46 1 rfl ?_
  refine ev_getR gf_RX3_25 dd_X3_copy_47 ha1 (by decide) ?_
  refine ev_iconst (v := 0) dd_X3_copy_50 (by decide) ?_
  refine ev_aload_n dd_X3_copy_51 0 rfl ?_
  refine ev_getR gf_RX3_25 dd_X3_copy_52 ht (by decide) ?_
  refine ev_iconst (v := 0) dd_X3_copy_55 (by decide) ?_
  refine ev_bipush (v := 40) dd_X3_copy_56 (by decide) ?_
  refine ev_copyi cw_RX3_37 dd_X3_copy_58 ((zg_3_4 ha1).1) ((zg_3_4 ha1).2) ((zg_3_4 ht).1) ((zg_3_4 ht).2) (Nat.le_of_ble_eq_true rfl) ?_
  refine ev_st (fun M5 => ?_)
  refine ev_aload_n dd_X3_copy_61 1 rfl ?_
  refine ev_getR gf_RX3_28 dd_X3_copy_62 ha1 (by decide) ?_
  refine ev_iconst (v := 0) dd_X3_copy_65 (by decide) ?_
  refine ev_aload_n dd_X3_copy_66 0 rfl ?_
  refine ev_getR gf_RX3_28 dd_X3_copy_67 ht (by decide) ?_
  refine ev_iconst (v := 0) dd_X3_copy_70 (by decide) ?_
  refine ev_bipush (v := 40) dd_X3_copy_71 (by decide) ?_
  refine ev_copyi cw_RX3_37 dd_X3_copy_73 ((zg_3_5 ha1).1) ((zg_3_5 ha1).2) ((zg_3_5 ht).1) ((zg_3_5 ht).2) (Nat.le_of_ble_eq_true rfl) ?_
  refine ev_st (fun M6 => ?_)
  refine ev_aload_n dd_X3_copy_76 1 rfl ?_
  refine ev_getR gf_RX3_31 dd_X3_copy_77 ha1 (by decide) ?_
  refine ev_iconst (v := 0) dd_X3_copy_80 (by decide) ?_
  refine ev_aload_n dd_X3_copy_81 0 rfl ?_
  refine ev_getR gf_RX3_31 dd_X3_copy_82 ht (by decide) ?_
  refine ev_iconst (v := 0) dd_X3_copy_85 (by decide) ?_
  refine ev_bipush (v := 8) dd_X3_copy_86 (by decide) ?_
  refine ev_copyi cw_RX3_37 dd_X3_copy_88 ((zg_3_6 ha1).1) ((zg_3_6 ha1).2) ((zg_3_6 ht).1) ((zg_3_6 ht).2) (Nat.le_of_ble_eq_true rfl) ?_
  refine ev_st (fun M7 => ?_)
  refine ev_aload_n dd_X3_copy_91 1 rfl ?_
  refine ev_lv (lv' := [(0, .ref (G.2.1 + t))]) [0] rfl ?_
  refine ev_getR gf_RX3_34 dd_X3_copy_92 ha1 (by decide) ?_
  refine ev_iconst (v := 0) dd_X3_copy_95 (by decide) ?_
  refine ev_aload_n dd_X3_copy_96 0 rfl ?_
  refine ev_lv (lv' := []) [] rfl ?_
  refine ev_getR gf_RX3_34 dd_X3_copy_97 ht (by decide) ?_
  refine ev_iconst (v := 0) dd_X3_copy_100 (by decide) ?_
  refine ev_bipush (v := 8) dd_X3_copy_101 (by decide) ?_
  refine ev_copyi cw_RX3_37 dd_X3_copy_103 ((zg_3_7 ha1).1) ((zg_3_7 ha1).2) ((zg_3_7 ht).1) ((zg_3_7 ht).2) (Nat.le_of_ble_eq_true rfl) ?_
  refine ev_st (fun M8 => ?_)
  exact ev_vret dd_X3_copy_106 rfl (Nat.le_of_ble_eq_true rfl) rfl
/-! X11_image -/
theorem dd_X11_image_0 : decode Y_X11_image.2.1 0 = .ok (.aload_n 0, 1) := by decide +kernel
theorem dd_X11_image_1 : decode Y_X11_image.2.1 1 = .ok (.getfield 47, 3) := by decide +kernel
theorem dd_X11_image_4 : decode Y_X11_image.2.1 4 = .ok (.aload_n 0, 1) := by decide +kernel
theorem dd_X11_image_5 : decode Y_X11_image.2.1 5 = .ok (.getfield 40, 3) := by decide +kernel
theorem dd_X11_image_8 : decode Y_X11_image.2.1 8 = .ok (.invokevirtual 291, 3) := by decide +kernel
theorem dd_X11_image_11 : decode Y_X11_image.2.1 11 = .ok (.aload_n 0, 1) := by decide +kernel
theorem dd_X11_image_12 : decode Y_X11_image.2.1 12 = .ok (.getfield 57, 3) := by decide +kernel
theorem dd_X11_image_15 : decode Y_X11_image.2.1 15 = .ok (.aload_n 0, 1) := by decide +kernel
theorem dd_X11_image_16 : decode Y_X11_image.2.1 16 = .ok (.getfield 53, 3) := by decide +kernel
theorem dd_X11_image_19 : decode Y_X11_image.2.1 19 = .ok (.invokevirtual 362, 3) := by decide +kernel
theorem dd_X11_image_22 : decode Y_X11_image.2.1 22 = .ok (.aload_n 0, 1) := by decide +kernel
theorem dd_X11_image_23 : decode Y_X11_image.2.1 23 = .ok (.iconst 1, 1) := by decide +kernel
theorem dd_X11_image_24 : decode Y_X11_image.2.1 24 = .ok (.putfield 100, 3) := by decide +kernel
theorem dd_X11_image_27 : decode Y_X11_image.2.1 27 = .ok (.return_, 1) := by decide +kernel
def F_X11_image (t : Nat) (M : zM) : zO := zbV (F_X10_copy (zgr t 6) (zgr t 4) M) (fun M1 => zbV (F_X3_copy (zgr t 8) (zgr t 7) M1) (fun M2 => zck (zbo 1) (zst (zup M2 t 14 1) (fun M3 => zV M3))))
set_option maxHeartbeats 1000000 in
set_option maxRecDepth 20000 in
theorem ct_X11_image (l : Launch) (hl : l.stackTraces = false) (G : zG) (t : Nat) (ht : zsh t = 11) (M : zM) : zMt l G Y_X11_image 9 [.ref (G.2.1 + t)] M (F_X11_image t M) := by
  refine zMt_of (by decide +kernel) (Nat.le_of_ble_eq_true rfl) ?_
  show zEv l G Y_X11_image 9 0 0 [(0, .ref (G.2.1 + t))] [] M (zbV (F_X10_copy (zgr t 6) (zgr t 4) M) (fun M1 => zbV (F_X3_copy (zgr t 8) (zgr t 7) M1) (fun M2 => zck (zbo 1) (zst (zup M2 t 14 1) (fun M3 => zV M3)))))
  refine ev_aload_n dd_X11_image_0 0 rfl ?_
  refine ev_getR gf_RX11_47 dd_X11_image_1 ht (by decide) ?_
  refine ev_aload_n dd_X11_image_4 0 rfl ?_
  refine ev_getR gf_RX11_40 dd_X11_image_5 ht (by decide) ?_
  refine ev_callVV (As := [.ref (G.2.1 + (zgr t 4))]) cl_RX11_291 (ct_X10_copy l hl G (zgr t 6) (zg_11_6 ht) (zgr t 4) (zg_11_4 ht) M) dd_X11_image_8 (zg_11_6 ht) (by decide) (Nat.le_of_ble_eq_true rfl) (Nat.le_of_ble_eq_true rfl) rfl rfl (fun M1 => ?_)
  refine ev_aload_n dd_X11_image_11 0 rfl ?_
  refine ev_getR gf_RX11_57 dd_X11_image_12 ht (by decide) ?_
  refine ev_aload_n dd_X11_image_15 0 rfl ?_
  refine ev_getR gf_RX11_53 dd_X11_image_16 ht (by decide) ?_
  refine ev_callVV (As := [.ref (G.2.1 + (zgr t 7))]) cl_RX11_362 (ct_X3_copy l hl G (zgr t 8) (zg_11_8 ht) (zgr t 7) (zg_11_7 ht) M1) dd_X11_image_19 (zg_11_8 ht) (by decide) (Nat.le_of_ble_eq_true rfl) (Nat.le_of_ble_eq_true rfl) rfl rfl (fun M2 => ?_)
  refine ev_aload_n dd_X11_image_22 0 rfl ?_
  refine ev_lv (lv' := []) [] rfl ?_
  refine ev_iconst (v := 1) dd_X11_image_23 (by decide) ?_
  refine ev_putZ gw_RX11_100 dd_X11_image_24 ht (by decide) ?_
  refine ev_st (fun M3 => ?_)
  exact ev_vret dd_X11_image_27 rfl (Nat.le_of_ble_eq_true rfl) rfl
/-! X11_needName -/
theorem dd_X11_needName_0 : decode Y_X11_needName.2.1 0 = .ok (.iload_n 1, 1) := by decide +kernel
theorem dd_X11_needName_1 : decode Y_X11_needName.2.1 1 = .ok (.ifCond .lt 14, 3) := by decide +kernel
theorem dd_X11_needName_4 : decode Y_X11_needName.2.1 4 = .ok (.iload_n 1, 1) := by decide +kernel
theorem dd_X11_needName_5 : decode Y_X11_needName.2.1 5 = .ok (.aload_n 0, 1) := by decide +kernel
theorem dd_X11_needName_6 : decode Y_X11_needName.2.1 6 = .ok (.getfield 19, 3) := by decide +kernel
theorem dd_X11_needName_9 : decode Y_X11_needName.2.1 9 = .ok (.getfield 142, 3) := by decide +kernel
theorem dd_X11_needName_12 : decode Y_X11_needName.2.1 12 = .ok (.if_icmp .lt 14, 3) := by decide +kernel
theorem dd_X11_needName_15 : decode Y_X11_needName.2.1 15 = .ok (.new 164, 3) := by decide +kernel
theorem dd_X11_needName_18 : decode Y_X11_needName.2.1 18 = .ok (.dup, 1) := by decide +kernel
theorem dd_X11_needName_19 : decode Y_X11_needName.2.1 19 = .ok (.ldc_w 367, 3) := by decide +kernel
theorem dd_X11_needName_22 : decode Y_X11_needName.2.1 22 = .ok (.invokespecial 168, 3) := by decide +kernel
theorem dd_X11_needName_25 : decode Y_X11_needName.2.1 25 = .ok (.athrow, 1) := by decide +kernel
theorem dd_X11_needName_26 : decode Y_X11_needName.2.1 26 = .ok (.return_, 1) := by decide +kernel
def F_X11_needName (t : Nat) (a1 : Int32) (M : zM) : zO := zjo (fun  (M1 : zM) => zE "java/util/NoSuchElementException" M1) (fun (k1 : zM → zO) => zit (a1 < 0) (k1 M) (zit (a1 < (M (zgr t 1) 0)) (zV M) (k1 M)))
set_option maxHeartbeats 1000000 in
set_option maxRecDepth 20000 in
theorem ct_X11_needName (l : Launch) (hl : l.stackTraces = false) (G : zG) (t : Nat) (ht : zsh t = 11) (a1 : Int32) (M : zM) : zMt l G Y_X11_needName 1 [.ref (G.2.1 + t), .int a1] M (F_X11_needName t a1 M) := by
  refine zMt_of (by decide +kernel) (Nat.le_of_ble_eq_true rfl) ?_
  show zEv l G Y_X11_needName 1 0 0 [(0, .ref (G.2.1 + t)), (1, .int a1)] [] M (zjo (fun  (M1 : zM) => zE "java/util/NoSuchElementException" M1) (fun (k1 : zM → zO) => zit (a1 < 0) (k1 M) (zit (a1 < (M (zgr t 1) 0)) (zV M) (k1 M))))
  refine ev_iload_n dd_X11_needName_0 1 rfl ?_
  refine ev_jo (fun (k1 : zM → zO) => ∀  (M1 : zM), zEv l G Y_X11_needName 1 0 15 [] [] M1 (k1 M1)) ?_ (fun k1 hk1 => ?_)
  · intro M1
    exact ev_throwNW hl zTh_NSE sr_RX11_367 dd_X11_needName_15 dd_X11_needName_18 dd_X11_needName_19 dd_X11_needName_22 dd_X11_needName_25 (Nat.le_of_ble_eq_true rfl) (Nat.le_of_ble_eq_true rfl)
  · refine ev_if_lt 15 dd_X11_needName_1 (by decide) ?_ ?_
    · refine ev_lv (lv' := []) [] rfl ?_
      exact hk1 _
    · refine ev_iload_n dd_X11_needName_4 1 rfl ?_
      refine ev_lv (lv' := [(0, .ref (G.2.1 + t))]) [0] rfl ?_
      refine ev_aload_n dd_X11_needName_5 0 rfl ?_
      refine ev_lv (lv' := []) [] rfl ?_
      refine ev_getR gf_RX11_19 dd_X11_needName_6 ht (by decide) ?_
      refine ev_getI gf_RX11_142 dd_X11_needName_9 (zg_11_1 ht) (by decide) ?_
      refine ev_icmp_lt 26 dd_X11_needName_12 (by decide) ?_ ?_
      · exact ev_vret dd_X11_needName_26 rfl (Nat.le_of_ble_eq_true rfl) rfl
      · exact hk1 _
/-! X9_sign -/
theorem dd_X9_sign_0 : decode Y_X9_sign.2.1 0 = .ok (.aload_n 0, 1) := by decide +kernel
theorem dd_X9_sign_1 : decode Y_X9_sign.2.1 1 = .ok (.getfield 9, 3) := by decide +kernel
theorem dd_X9_sign_4 : decode Y_X9_sign.2.1 4 = .ok (.iload_n 1, 1) := by decide +kernel
theorem dd_X9_sign_5 : decode Y_X9_sign.2.1 5 = .ok (.bipush 9, 2) := by decide +kernel
theorem dd_X9_sign_7 : decode Y_X9_sign.2.1 7 = .ok (.imul, 1) := by decide +kernel
theorem dd_X9_sign_8 : decode Y_X9_sign.2.1 8 = .ok (.iload_n 2, 1) := by decide +kernel
theorem dd_X9_sign_9 : decode Y_X9_sign.2.1 9 = .ok (.iadd, 1) := by decide +kernel
theorem dd_X9_sign_10 : decode Y_X9_sign.2.1 10 = .ok (.baload, 1) := by decide +kernel
theorem dd_X9_sign_11 : decode Y_X9_sign.2.1 11 = .ok (.ireturn, 1) := by decide +kernel
def F_X9_sign (t : Nat) (a1 : Int32) (a2 : Int32) (M : zM) : zO := zck (zin ((a1 * 9) + a2) 72) (zI (M (zgr t 0) (zix ((a1 * 9) + a2))) M)
set_option maxHeartbeats 1000000 in
set_option maxRecDepth 20000 in
theorem ct_X9_sign (l : Launch) (hl : l.stackTraces = false) (G : zG) (t : Nat) (ht : zsh t = 9) (a1 : Int32) (a2 : Int32) (M : zM) : zMt l G Y_X9_sign 1 [.ref (G.2.1 + t), .int a1, .int a2] M (F_X9_sign t a1 a2 M) := by
  refine zMt_of (by decide +kernel) (Nat.le_of_ble_eq_true rfl) ?_
  show zEv l G Y_X9_sign 1 0 0 [(0, .ref (G.2.1 + t)), (1, .int a1), (2, .int a2)] [] M (zck (zin ((a1 * 9) + a2) 72) (zI (M (zgr t 0) (zix ((a1 * 9) + a2))) M))
  refine ev_aload_n dd_X9_sign_0 0 rfl ?_
  refine ev_lv (lv' := [(1, .int a1), (2, .int a2)]) [1, 2] rfl ?_
  refine ev_getR gf_RX9_9 dd_X9_sign_1 ht (by decide) ?_
  refine ev_iload_n dd_X9_sign_4 0 rfl ?_
  refine ev_lv (lv' := [(2, .int a2)]) [1] rfl ?_
  refine ev_bipush (v := 9) dd_X9_sign_5 (by decide) ?_
  refine ev_imul dd_X9_sign_7 ?_
  refine ev_iload_n dd_X9_sign_8 0 rfl ?_
  refine ev_lv (lv' := []) [] rfl ?_
  refine ev_iadd dd_X9_sign_9 ?_
  refine ev_bald dd_X9_sign_10 ((zg_9_0 ht).1) ((zg_9_0 ht).2) ?_
  exact ev_iret dd_X9_sign_11 rfl (Nat.le_of_ble_eq_true rfl) rfl
/-! X9_runsAlike -/
theorem dd_X9_runsAlike_0 : decode Y_X9_runsAlike.2.1 0 = .ok (.iconst 0, 1) := by decide +kernel
theorem dd_X9_runsAlike_1 : decode Y_X9_runsAlike.2.1 1 = .ok (.istore 6, 2) := by decide +kernel
theorem dd_X9_runsAlike_3 : decode Y_X9_runsAlike.2.1 3 = .ok (.iload 6, 2) := by decide +kernel
theorem dd_X9_runsAlike_5 : decode Y_X9_runsAlike.2.1 5 = .ok (.iload 5, 2) := by decide +kernel
theorem dd_X9_runsAlike_7 : decode Y_X9_runsAlike.2.1 7 = .ok (.if_icmp .ge 33, 3) := by decide +kernel
theorem dd_X9_runsAlike_10 : decode Y_X9_runsAlike.2.1 10 = .ok (.aload_n 0, 1) := by decide +kernel
theorem dd_X9_runsAlike_11 : decode Y_X9_runsAlike.2.1 11 = .ok (.iload_n 1, 1) := by decide +kernel
theorem dd_X9_runsAlike_12 : decode Y_X9_runsAlike.2.1 12 = .ok (.iload_n 2, 1) := by decide +kernel
theorem dd_X9_runsAlike_13 : decode Y_X9_runsAlike.2.1 13 = .ok (.iload 6, 2) := by decide +kernel
theorem dd_X9_runsAlike_15 : decode Y_X9_runsAlike.2.1 15 = .ok (.iadd, 1) := by decide +kernel
theorem dd_X9_runsAlike_16 : decode Y_X9_runsAlike.2.1 16 = .ok (.invokevirtual 61, 3) := by decide +kernel
theorem dd_X9_runsAlike_19 : decode Y_X9_runsAlike.2.1 19 = .ok (.aload_n 0, 1) := by decide +kernel
theorem dd_X9_runsAlike_20 : decode Y_X9_runsAlike.2.1 20 = .ok (.iload_n 3, 1) := by decide +kernel
theorem dd_X9_runsAlike_21 : decode Y_X9_runsAlike.2.1 21 = .ok (.iload 4, 2) := by decide +kernel
theorem dd_X9_runsAlike_23 : decode Y_X9_runsAlike.2.1 23 = .ok (.iload 6, 2) := by decide +kernel
theorem dd_X9_runsAlike_25 : decode Y_X9_runsAlike.2.1 25 = .ok (.iadd, 1) := by decide +kernel
theorem dd_X9_runsAlike_26 : decode Y_X9_runsAlike.2.1 26 = .ok (.invokevirtual 61, 3) := by decide +kernel
theorem dd_X9_runsAlike_29 : decode Y_X9_runsAlike.2.1 29 = .ok (.if_icmp .eq 5, 3) := by decide +kernel
theorem dd_X9_runsAlike_32 : decode Y_X9_runsAlike.2.1 32 = .ok (.iconst 0, 1) := by decide +kernel
theorem dd_X9_runsAlike_33 : decode Y_X9_runsAlike.2.1 33 = .ok (.ireturn, 1) := by decide +kernel
theorem dd_X9_runsAlike_34 : decode Y_X9_runsAlike.2.1 34 = .ok (.iinc 6 1, 3) := by decide +kernel
theorem dd_X9_runsAlike_37 : decode Y_X9_runsAlike.2.1 37 = .ok (.goto (-34), 3) := by decide +kernel
theorem dd_X9_runsAlike_40 : decode Y_X9_runsAlike.2.1 40 = .ok (.iconst 1, 1) := by decide +kernel
theorem dd_X9_runsAlike_41 : decode Y_X9_runsAlike.2.1 41 = .ok (.ireturn, 1) := by decide +kernel
def F_X9_runsAlike_L3 (x0 : Nat) (x1 : Int32) (x2 : Int32) (x3 : Int32) (x4 : Int32) (x5 : Int32) (K40 : zM → zO) : Nat → Int32 → zM → zO
  | 0, _, _ => none
  | n + 1, x6, M => zit (x5 ≤ x6) (K40 M) (zbI (F_X9_sign x0 x1 (x2 + x6) M) (fun r1 M1 => zbI (F_X9_sign x0 x3 (x4 + x6) M1) (fun r2 M2 => zit (r1 = r2) (F_X9_runsAlike_L3 x0 x1 x2 x3 x4 x5 K40 n (x6 + 1) M2) (zck (zbo 0) (zI 0 M2)))))
def F_X9_runsAlike (t : Nat) (a1 : Int32) (a2 : Int32) (a3 : Int32) (a4 : Int32) (a5 : Int32) (M : zM) : zO := F_X9_runsAlike_L3 t a1 a2 a3 a4 a5 (fun  (M3 : zM) => zck (zbo 1) (zI 1 M3)) zN 0 M
set_option maxHeartbeats 1000000 in
set_option maxRecDepth 20000 in
theorem ct_X9_runsAlike_L3 (l : Launch) (hl : l.stackTraces = false) (G : zG) (x0 : Nat) (hx0 : zsh x0 = 9) (x1 : Int32) (x2 : Int32) (x3 : Int32) (x4 : Int32) (x5 : Int32) (K40 : zM → zO) (hK40 : ∀  (M : zM), zEv l G Y_X9_runsAlike 2 0 40 [] [] M (K40 M)) : ∀ (n : Nat) (x6 : Int32) (M : zM), zEv l G Y_X9_runsAlike 2 0 3 [(0, .ref (G.2.1 + x0)), (1, .int x1), (2, .int x2), (3, .int x3), (4, .int x4), (5, .int x5), (6, .int x6)] [] M (F_X9_runsAlike_L3 x0 x1 x2 x3 x4 x5 K40 n x6 M) := by
  intro n
  induction n with
  | zero => intro x6 M; exact ev_none
  | succ n ih =>
    intro x6 M
    show zEv l G Y_X9_runsAlike 2 0 3 [(0, .ref (G.2.1 + x0)), (1, .int x1), (2, .int x2), (3, .int x3), (4, .int x4), (5, .int x5), (6, .int x6)] [] M (zit (x5 ≤ x6) (K40 M) (zbI (F_X9_sign x0 x1 (x2 + x6) M) (fun r1 M1 => zbI (F_X9_sign x0 x3 (x4 + x6) M1) (fun r2 M2 => zit (r1 = r2) (F_X9_runsAlike_L3 x0 x1 x2 x3 x4 x5 K40 n (x6 + 1) M2) (zck (zbo 0) (zI 0 M2))))))
    refine ev_iload dd_X9_runsAlike_3 6 rfl ?_
    refine ev_iload dd_X9_runsAlike_5 5 rfl ?_
    refine ev_icmp_ge 40 dd_X9_runsAlike_7 (by decide) ?_ ?_
    · refine ev_lv (lv' := []) [] rfl ?_
      exact hK40 _
    · refine ev_aload_n dd_X9_runsAlike_10 0 rfl ?_
      refine ev_iload_n dd_X9_runsAlike_11 1 rfl ?_
      refine ev_iload_n dd_X9_runsAlike_12 2 rfl ?_
      refine ev_iload dd_X9_runsAlike_13 6 rfl ?_
      refine ev_iadd dd_X9_runsAlike_15 ?_
      refine ev_callVI (As := [.int x1, .int (x2 + x6)]) cl_RX9_61 (ct_X9_sign l hl G x0 hx0 x1 (x2 + x6) M) dd_X9_runsAlike_16 hx0 (by decide) (Nat.le_of_ble_eq_true rfl) (Nat.le_of_ble_eq_true rfl) rfl rfl (fun r1 M1 => ?_)
      refine ev_aload_n dd_X9_runsAlike_19 0 rfl ?_
      refine ev_iload_n dd_X9_runsAlike_20 3 rfl ?_
      refine ev_iload dd_X9_runsAlike_21 4 rfl ?_
      refine ev_iload dd_X9_runsAlike_23 6 rfl ?_
      refine ev_iadd dd_X9_runsAlike_25 ?_
      refine ev_callVI (As := [.int x3, .int (x4 + x6)]) cl_RX9_61 (ct_X9_sign l hl G x0 hx0 x3 (x4 + x6) M1) dd_X9_runsAlike_26 hx0 (by decide) (Nat.le_of_ble_eq_true rfl) (Nat.le_of_ble_eq_true rfl) rfl rfl (fun r2 M2 => ?_)
      refine ev_icmp_eq 34 dd_X9_runsAlike_29 (by decide) ?_ ?_
      · refine ev_iinc (j := 6) (v := 1) (lv' := [(0, .ref (G.2.1 + x0)), (1, .int x1), (2, .int x2), (3, .int x3), (4, .int x4), (5, .int x5), (6, .int (x6 + 1))]) [1, 2, 3, 4, 5, 6, 0] dd_X9_runsAlike_34 rfl (by decide) (by decide) rfl ?_
        refine ev_goto 3 dd_X9_runsAlike_37 (by decide) ?_
        exact ih _ _
      · refine ev_lv (lv' := []) [] rfl ?_
        refine ev_iconst (v := 0) dd_X9_runsAlike_32 (by decide) ?_
        exact ev_zret dd_X9_runsAlike_33 rfl (Nat.le_of_ble_eq_true rfl) rfl
set_option maxHeartbeats 1000000 in
set_option maxRecDepth 20000 in
theorem ct_X9_runsAlike (l : Launch) (hl : l.stackTraces = false) (G : zG) (t : Nat) (ht : zsh t = 9) (a1 : Int32) (a2 : Int32) (a3 : Int32) (a4 : Int32) (a5 : Int32) (M : zM) : zMt l G Y_X9_runsAlike 2 [.ref (G.2.1 + t), .int a1, .int a2, .int a3, .int a4, .int a5] M (F_X9_runsAlike t a1 a2 a3 a4 a5 M) := by
  refine zMt_of (by decide +kernel) (Nat.le_of_ble_eq_true rfl) ?_
  show zEv l G Y_X9_runsAlike 2 0 0 [(0, .ref (G.2.1 + t)), (1, .int a1), (2, .int a2), (3, .int a3), (4, .int a4), (5, .int a5)] [] M (F_X9_runsAlike_L3 t a1 a2 a3 a4 a5 (fun  (M3 : zM) => zck (zbo 1) (zI 1 M3)) zN 0 M)
  refine ev_iconst (v := 0) dd_X9_runsAlike_0 (by decide) ?_
  refine ev_istore (i := 6) (lv' := [(0, .ref (G.2.1 + t)), (1, .int a1), (2, .int a2), (3, .int a3), (4, .int a4), (5, .int a5), (6, .int 0)]) [1, 2, 3, 4, 5, 6, 0] dd_X9_runsAlike_1 (by decide) rfl ?_
  refine ct_X9_runsAlike_L3 l hl G t ht a1 a2 a3 a4 a5 _ (fun M3 => ?_) zN _ _
  refine ev_iconst (v := 1) dd_X9_runsAlike_40 (by decide) ?_
  exact ev_zret dd_X9_runsAlike_41 rfl (Nat.le_of_ble_eq_true rfl) rfl
/-! X9_isIn -/
theorem dd_X9_isIn_0 : decode Y_X9_isIn.2.1 0 = .ok (.iconst 0, 1) := by decide +kernel
theorem dd_X9_isIn_1 : decode Y_X9_isIn.2.1 1 = .ok (.istore_n 3, 1) := by decide +kernel
theorem dd_X9_isIn_2 : decode Y_X9_isIn.2.1 2 = .ok (.iload_n 3, 1) := by decide +kernel
theorem dd_X9_isIn_3 : decode Y_X9_isIn.2.1 3 = .ok (.aload_n 0, 1) := by decide +kernel
theorem dd_X9_isIn_4 : decode Y_X9_isIn.2.1 4 = .ok (.getfield 15, 3) := by decide +kernel
theorem dd_X9_isIn_7 : decode Y_X9_isIn.2.1 7 = .ok (.iload_n 1, 1) := by decide +kernel
theorem dd_X9_isIn_8 : decode Y_X9_isIn.2.1 8 = .ok (.iaload, 1) := by decide +kernel
theorem dd_X9_isIn_9 : decode Y_X9_isIn.2.1 9 = .ok (.iadd, 1) := by decide +kernel
theorem dd_X9_isIn_10 : decode Y_X9_isIn.2.1 10 = .ok (.aload_n 0, 1) := by decide +kernel
theorem dd_X9_isIn_11 : decode Y_X9_isIn.2.1 11 = .ok (.getfield 15, 3) := by decide +kernel
theorem dd_X9_isIn_14 : decode Y_X9_isIn.2.1 14 = .ok (.iload_n 2, 1) := by decide +kernel
theorem dd_X9_isIn_15 : decode Y_X9_isIn.2.1 15 = .ok (.iaload, 1) := by decide +kernel
theorem dd_X9_isIn_16 : decode Y_X9_isIn.2.1 16 = .ok (.if_icmp .gt 28, 3) := by decide +kernel
theorem dd_X9_isIn_19 : decode Y_X9_isIn.2.1 19 = .ok (.aload_n 0, 1) := by decide +kernel
theorem dd_X9_isIn_20 : decode Y_X9_isIn.2.1 20 = .ok (.iload_n 1, 1) := by decide +kernel
theorem dd_X9_isIn_21 : decode Y_X9_isIn.2.1 21 = .ok (.iconst 0, 1) := by decide +kernel
theorem dd_X9_isIn_22 : decode Y_X9_isIn.2.1 22 = .ok (.iload_n 2, 1) := by decide +kernel
theorem dd_X9_isIn_23 : decode Y_X9_isIn.2.1 23 = .ok (.iload_n 3, 1) := by decide +kernel
theorem dd_X9_isIn_24 : decode Y_X9_isIn.2.1 24 = .ok (.aload_n 0, 1) := by decide +kernel
theorem dd_X9_isIn_25 : decode Y_X9_isIn.2.1 25 = .ok (.getfield 15, 3) := by decide +kernel
theorem dd_X9_isIn_28 : decode Y_X9_isIn.2.1 28 = .ok (.iload_n 1, 1) := by decide +kernel
theorem dd_X9_isIn_29 : decode Y_X9_isIn.2.1 29 = .ok (.iaload, 1) := by decide +kernel
theorem dd_X9_isIn_30 : decode Y_X9_isIn.2.1 30 = .ok (.invokevirtual 57, 3) := by decide +kernel
theorem dd_X9_isIn_33 : decode Y_X9_isIn.2.1 33 = .ok (.ifCond .eq 5, 3) := by decide +kernel
theorem dd_X9_isIn_36 : decode Y_X9_isIn.2.1 36 = .ok (.iconst 1, 1) := by decide +kernel
theorem dd_X9_isIn_37 : decode Y_X9_isIn.2.1 37 = .ok (.ireturn, 1) := by decide +kernel
theorem dd_X9_isIn_38 : decode Y_X9_isIn.2.1 38 = .ok (.iinc 3 1, 3) := by decide +kernel
theorem dd_X9_isIn_41 : decode Y_X9_isIn.2.1 41 = .ok (.goto (-39), 3) := by decide +kernel
theorem dd_X9_isIn_44 : decode Y_X9_isIn.2.1 44 = .ok (.iconst 0, 1) := by decide +kernel
theorem dd_X9_isIn_45 : decode Y_X9_isIn.2.1 45 = .ok (.ireturn, 1) := by decide +kernel
def F_X9_isIn_L2 (x0 : Nat) (x1 : Int32) (x2 : Int32) (K44 : zM → zO) : Nat → Int32 → zM → zO
  | 0, _, _ => none
  | n + 1, x3, M => zck (zin x1 8) (zck (zin x2 8) (zit ((M (zgr x0 1) (zix x2)) < (x3 + (M (zgr x0 1) (zix x1)))) (K44 M) (zck (zin x1 8) (zbI (F_X9_runsAlike x0 x1 0 x2 x3 (M (zgr x0 1) (zix x1)) M) (fun r1 M1 => zit (r1 = 0) (F_X9_isIn_L2 x0 x1 x2 K44 n (x3 + 1) M1) (zck (zbo 1) (zI 1 M1)))))))
def F_X9_isIn (t : Nat) (a1 : Int32) (a2 : Int32) (M : zM) : zO := F_X9_isIn_L2 t a1 a2 (fun  (M2 : zM) => zck (zbo 0) (zI 0 M2)) zN 0 M
set_option maxHeartbeats 1000000 in
set_option maxRecDepth 20000 in
theorem ct_X9_isIn_L2 (l : Launch) (hl : l.stackTraces = false) (G : zG) (x0 : Nat) (hx0 : zsh x0 = 9) (x1 : Int32) (x2 : Int32) (K44 : zM → zO) (hK44 : ∀  (M : zM), zEv l G Y_X9_isIn 3 0 44 [] [] M (K44 M)) : ∀ (n : Nat) (x3 : Int32) (M : zM), zEv l G Y_X9_isIn 3 0 2 [(0, .ref (G.2.1 + x0)), (1, .int x1), (2, .int x2), (3, .int x3)] [] M (F_X9_isIn_L2 x0 x1 x2 K44 n x3 M) := by
  intro n
  induction n with
  | zero => intro x3 M; exact ev_none
  | succ n ih =>
    intro x3 M
    show zEv l G Y_X9_isIn 3 0 2 [(0, .ref (G.2.1 + x0)), (1, .int x1), (2, .int x2), (3, .int x3)] [] M (zck (zin x1 8) (zck (zin x2 8) (zit ((M (zgr x0 1) (zix x2)) < (x3 + (M (zgr x0 1) (zix x1)))) (K44 M) (zck (zin x1 8) (zbI (F_X9_runsAlike x0 x1 0 x2 x3 (M (zgr x0 1) (zix x1)) M) (fun r1 M1 => zit (r1 = 0) (F_X9_isIn_L2 x0 x1 x2 K44 n (x3 + 1) M1) (zck (zbo 1) (zI 1 M1))))))))
    refine ev_iload_n dd_X9_isIn_2 3 rfl ?_
    refine ev_aload_n dd_X9_isIn_3 0 rfl ?_
    refine ev_getR gf_RX9_15 dd_X9_isIn_4 hx0 (by decide) ?_
    refine ev_iload_n dd_X9_isIn_7 1 rfl ?_
    refine ev_iald dd_X9_isIn_8 ((zg_9_1 hx0).1) ((zg_9_1 hx0).2) ?_
    refine ev_iadd dd_X9_isIn_9 ?_
    refine ev_aload_n dd_X9_isIn_10 0 rfl ?_
    refine ev_getR gf_RX9_15 dd_X9_isIn_11 hx0 (by decide) ?_
    refine ev_iload_n dd_X9_isIn_14 2 rfl ?_
    refine ev_iald dd_X9_isIn_15 ((zg_9_1 hx0).1) ((zg_9_1 hx0).2) ?_
    refine ev_icmp_gt 44 dd_X9_isIn_16 (by decide) ?_ ?_
    · refine ev_lv (lv' := []) [] rfl ?_
      exact hK44 _
    · refine ev_aload_n dd_X9_isIn_19 0 rfl ?_
      refine ev_iload_n dd_X9_isIn_20 1 rfl ?_
      refine ev_iconst (v := 0) dd_X9_isIn_21 (by decide) ?_
      refine ev_iload_n dd_X9_isIn_22 2 rfl ?_
      refine ev_iload_n dd_X9_isIn_23 3 rfl ?_
      refine ev_aload_n dd_X9_isIn_24 0 rfl ?_
      refine ev_getR gf_RX9_15 dd_X9_isIn_25 hx0 (by decide) ?_
      refine ev_iload_n dd_X9_isIn_28 1 rfl ?_
      refine ev_iald dd_X9_isIn_29 ((zg_9_1 hx0).1) ((zg_9_1 hx0).2) ?_
      refine ev_callVI (As := [.int x1, .int 0, .int x2, .int x3, .int (M (zgr x0 1) (zix x1))]) cl_RX9_57 (ct_X9_runsAlike l hl G x0 hx0 x1 0 x2 x3 (M (zgr x0 1) (zix x1)) M) dd_X9_isIn_30 hx0 (by decide) (Nat.le_of_ble_eq_true rfl) (Nat.le_of_ble_eq_true rfl) rfl rfl (fun r1 M1 => ?_)
      refine ev_if_eq 38 dd_X9_isIn_33 (by decide) ?_ ?_
      · refine ev_iinc (j := 3) (v := 1) (lv' := [(0, .ref (G.2.1 + x0)), (1, .int x1), (2, .int x2), (3, .int (x3 + 1))]) [1, 2, 3, 0] dd_X9_isIn_38 rfl (by decide) (by decide) rfl ?_
        refine ev_goto 2 dd_X9_isIn_41 (by decide) ?_
        exact ih _ _
      · refine ev_lv (lv' := []) [] rfl ?_
        refine ev_iconst (v := 1) dd_X9_isIn_36 (by decide) ?_
        exact ev_zret dd_X9_isIn_37 rfl (Nat.le_of_ble_eq_true rfl) rfl
set_option maxHeartbeats 1000000 in
set_option maxRecDepth 20000 in
theorem ct_X9_isIn (l : Launch) (hl : l.stackTraces = false) (G : zG) (t : Nat) (ht : zsh t = 9) (a1 : Int32) (a2 : Int32) (M : zM) : zMt l G Y_X9_isIn 3 [.ref (G.2.1 + t), .int a1, .int a2] M (F_X9_isIn t a1 a2 M) := by
  refine zMt_of (by decide +kernel) (Nat.le_of_ble_eq_true rfl) ?_
  show zEv l G Y_X9_isIn 3 0 0 [(0, .ref (G.2.1 + t)), (1, .int a1), (2, .int a2)] [] M (F_X9_isIn_L2 t a1 a2 (fun  (M2 : zM) => zck (zbo 0) (zI 0 M2)) zN 0 M)
  refine ev_iconst (v := 0) dd_X9_isIn_0 (by decide) ?_
  refine ev_istore_n (i := 3) (lv' := [(0, .ref (G.2.1 + t)), (1, .int a1), (2, .int a2), (3, .int 0)]) [1, 2, 3, 0] dd_X9_isIn_1 rfl (by decide) rfl ?_
  refine ct_X9_isIn_L2 l hl G t ht a1 a2 _ (fun M2 => ?_) zN _ _
  refine ev_iconst (v := 0) dd_X9_isIn_44 (by decide) ?_
  exact ev_zret dd_X9_isIn_45 rfl (Nat.le_of_ble_eq_true rfl) rfl
/-! X11_inside -/
theorem dd_X11_inside_0 : decode Y_X11_inside.2.1 0 = .ok (.aload_n 0, 1) := by decide +kernel
theorem dd_X11_inside_1 : decode Y_X11_inside.2.1 1 = .ok (.iload_n 1, 1) := by decide +kernel
theorem dd_X11_inside_2 : decode Y_X11_inside.2.1 2 = .ok (.invokevirtual 169, 3) := by decide +kernel
theorem dd_X11_inside_5 : decode Y_X11_inside.2.1 5 = .ok (.aload_n 0, 1) := by decide +kernel
theorem dd_X11_inside_6 : decode Y_X11_inside.2.1 6 = .ok (.iload_n 2, 1) := by decide +kernel
theorem dd_X11_inside_7 : decode Y_X11_inside.2.1 7 = .ok (.invokevirtual 169, 3) := by decide +kernel
theorem dd_X11_inside_10 : decode Y_X11_inside.2.1 10 = .ok (.aload_n 0, 1) := by decide +kernel
theorem dd_X11_inside_11 : decode Y_X11_inside.2.1 11 = .ok (.getfield 19, 3) := by decide +kernel
theorem dd_X11_inside_14 : decode Y_X11_inside.2.1 14 = .ok (.getfield 172, 3) := by decide +kernel
theorem dd_X11_inside_17 : decode Y_X11_inside.2.1 17 = .ok (.iload_n 1, 1) := by decide +kernel
theorem dd_X11_inside_18 : decode Y_X11_inside.2.1 18 = .ok (.iload_n 2, 1) := by decide +kernel
theorem dd_X11_inside_19 : decode Y_X11_inside.2.1 19 = .ok (.invokevirtual 306, 3) := by decide +kernel
theorem dd_X11_inside_22 : decode Y_X11_inside.2.1 22 = .ok (.ireturn, 1) := by decide +kernel
def F_X11_inside (t : Nat) (a1 : Int32) (a2 : Int32) (M : zM) : zO := zbV (F_X11_needName t a1 M) (fun M1 => zbV (F_X11_needName t a2 M1) (fun M2 => zbI (F_X9_isIn (zgr (zgr t 1) 4) a1 a2 M2) (fun r1 M3 => zck (zbo r1) (zI r1 M3))))
set_option maxHeartbeats 1000000 in
set_option maxRecDepth 20000 in
theorem ct_X11_inside (l : Launch) (hl : l.stackTraces = false) (G : zG) (t : Nat) (ht : zsh t = 11) (a1 : Int32) (a2 : Int32) (M : zM) : zMt l G Y_X11_inside 4 [.ref (G.2.1 + t), .int a1, .int a2] M (F_X11_inside t a1 a2 M) := by
  refine zMt_of (by decide +kernel) (Nat.le_of_ble_eq_true rfl) ?_
  show zEv l G Y_X11_inside 4 0 0 [(0, .ref (G.2.1 + t)), (1, .int a1), (2, .int a2)] [] M (zbV (F_X11_needName t a1 M) (fun M1 => zbV (F_X11_needName t a2 M1) (fun M2 => zbI (F_X9_isIn (zgr (zgr t 1) 4) a1 a2 M2) (fun r1 M3 => zck (zbo r1) (zI r1 M3)))))
  refine ev_aload_n dd_X11_inside_0 0 rfl ?_
  refine ev_iload_n dd_X11_inside_1 1 rfl ?_
  refine ev_callVV (As := [.int a1]) cl_RX11_169 (ct_X11_needName l hl G t ht a1 M) dd_X11_inside_2 ht (by decide) (Nat.le_of_ble_eq_true rfl) (Nat.le_of_ble_eq_true rfl) rfl rfl (fun M1 => ?_)
  refine ev_aload_n dd_X11_inside_5 0 rfl ?_
  refine ev_iload_n dd_X11_inside_6 2 rfl ?_
  refine ev_callVV (As := [.int a2]) cl_RX11_169 (ct_X11_needName l hl G t ht a2 M1) dd_X11_inside_7 ht (by decide) (Nat.le_of_ble_eq_true rfl) (Nat.le_of_ble_eq_true rfl) rfl rfl (fun M2 => ?_)
  refine ev_aload_n dd_X11_inside_10 0 rfl ?_
  refine ev_lv (lv' := [(1, .int a1), (2, .int a2)]) [1, 2] rfl ?_
  refine ev_getR gf_RX11_19 dd_X11_inside_11 ht (by decide) ?_
  refine ev_getR gf_RX11_172 dd_X11_inside_14 (zg_11_1 ht) (by decide) ?_
  refine ev_iload_n dd_X11_inside_17 0 rfl ?_
  refine ev_lv (lv' := [(2, .int a2)]) [1] rfl ?_
  refine ev_iload_n dd_X11_inside_18 0 rfl ?_
  refine ev_lv (lv' := []) [] rfl ?_
  refine ev_callVI (As := [.int a1, .int a2]) cl_RX11_306 (ct_X9_isIn l hl G (zgr (zgr t 1) 4) (zg_6_4 (zg_11_1 ht)) a1 a2 M2) dd_X11_inside_19 (zg_6_4 (zg_11_1 ht)) (by decide) (Nat.le_of_ble_eq_true rfl) (Nat.le_of_ble_eq_true rfl) rfl rfl (fun r1 M3 => ?_)
  exact ev_zret dd_X11_inside_22 rfl (Nat.le_of_ble_eq_true rfl) rfl
/-! X11_needBelow -/
theorem dd_X11_needBelow_0 : decode Y_X11_needBelow.2.1 0 = .ok (.iload_n 0, 1) := by decide +kernel
theorem dd_X11_needBelow_1 : decode Y_X11_needBelow.2.1 1 = .ok (.ifCond .lt 8, 3) := by decide +kernel
theorem dd_X11_needBelow_4 : decode Y_X11_needBelow.2.1 4 = .ok (.iload_n 0, 1) := by decide +kernel
theorem dd_X11_needBelow_5 : decode Y_X11_needBelow.2.1 5 = .ok (.iload_n 1, 1) := by decide +kernel
theorem dd_X11_needBelow_6 : decode Y_X11_needBelow.2.1 6 = .ok (.if_icmp .lt 14, 3) := by decide +kernel
theorem dd_X11_needBelow_9 : decode Y_X11_needBelow.2.1 9 = .ok (.new 164, 3) := by decide +kernel
theorem dd_X11_needBelow_12 : decode Y_X11_needBelow.2.1 12 = .ok (.dup, 1) := by decide +kernel
theorem dd_X11_needBelow_13 : decode Y_X11_needBelow.2.1 13 = .ok (.ldc_w 373, 3) := by decide +kernel
theorem dd_X11_needBelow_16 : decode Y_X11_needBelow.2.1 16 = .ok (.invokespecial 168, 3) := by decide +kernel
theorem dd_X11_needBelow_19 : decode Y_X11_needBelow.2.1 19 = .ok (.athrow, 1) := by decide +kernel
theorem dd_X11_needBelow_20 : decode Y_X11_needBelow.2.1 20 = .ok (.return_, 1) := by decide +kernel
def F_X11_needBelow (a0 : Int32) (a1 : Int32) (M : zM) : zO := zjo (fun  (M1 : zM) => zE "java/util/NoSuchElementException" M1) (fun (k1 : zM → zO) => zit (a0 < 0) (k1 M) (zit (a0 < a1) (zV M) (k1 M)))
set_option maxHeartbeats 1000000 in
set_option maxRecDepth 20000 in
theorem ct_X11_needBelow (l : Launch) (hl : l.stackTraces = false) (G : zG) (a0 : Int32) (a1 : Int32) (M : zM) : zMt l G Y_X11_needBelow 1 [.int a0, .int a1] M (F_X11_needBelow a0 a1 M) := by
  refine zMt_of (by decide +kernel) (Nat.le_of_ble_eq_true rfl) ?_
  show zEv l G Y_X11_needBelow 1 0 0 [(0, .int a0), (1, .int a1)] [] M (zjo (fun  (M1 : zM) => zE "java/util/NoSuchElementException" M1) (fun (k1 : zM → zO) => zit (a0 < 0) (k1 M) (zit (a0 < a1) (zV M) (k1 M))))
  refine ev_iload_n dd_X11_needBelow_0 0 rfl ?_
  refine ev_jo (fun (k1 : zM → zO) => ∀  (M1 : zM), zEv l G Y_X11_needBelow 1 0 9 [] [] M1 (k1 M1)) ?_ (fun k1 hk1 => ?_)
  · intro M1
    exact ev_throwNW hl zTh_NSE sr_RX11_373 dd_X11_needBelow_9 dd_X11_needBelow_12 dd_X11_needBelow_13 dd_X11_needBelow_16 dd_X11_needBelow_19 (Nat.le_of_ble_eq_true rfl) (Nat.le_of_ble_eq_true rfl)
  · refine ev_if_lt 9 dd_X11_needBelow_1 (by decide) ?_ ?_
    · refine ev_lv (lv' := []) [] rfl ?_
      exact hk1 _
    · refine ev_iload_n dd_X11_needBelow_4 0 rfl ?_
      refine ev_lv (lv' := [(1, .int a1)]) [1] rfl ?_
      refine ev_iload_n dd_X11_needBelow_5 0 rfl ?_
      refine ev_lv (lv' := []) [] rfl ?_
      refine ev_icmp_lt 20 dd_X11_needBelow_6 (by decide) ?_ ?_
      · exact ev_vret dd_X11_needBelow_20 rfl (Nat.le_of_ble_eq_true rfl) rfl
      · exact hk1 _
/-! X9_overlap -/
theorem dd_X9_overlap_0 : decode Y_X9_overlap.2.1 0 = .ok (.aload_n 0, 1) := by decide +kernel
theorem dd_X9_overlap_1 : decode Y_X9_overlap.2.1 1 = .ok (.getfield 15, 3) := by decide +kernel
theorem dd_X9_overlap_4 : decode Y_X9_overlap.2.1 4 = .ok (.iload_n 1, 1) := by decide +kernel
theorem dd_X9_overlap_5 : decode Y_X9_overlap.2.1 5 = .ok (.iaload, 1) := by decide +kernel
theorem dd_X9_overlap_6 : decode Y_X9_overlap.2.1 6 = .ok (.aload_n 0, 1) := by decide +kernel
theorem dd_X9_overlap_7 : decode Y_X9_overlap.2.1 7 = .ok (.getfield 15, 3) := by decide +kernel
theorem dd_X9_overlap_10 : decode Y_X9_overlap.2.1 10 = .ok (.iload_n 2, 1) := by decide +kernel
theorem dd_X9_overlap_11 : decode Y_X9_overlap.2.1 11 = .ok (.iaload, 1) := by decide +kernel
theorem dd_X9_overlap_12 : decode Y_X9_overlap.2.1 12 = .ok (.invokestatic 44, 3) := by decide +kernel
theorem dd_X9_overlap_15 : decode Y_X9_overlap.2.1 15 = .ok (.iconst 1, 1) := by decide +kernel
theorem dd_X9_overlap_16 : decode Y_X9_overlap.2.1 16 = .ok (.isub, 1) := by decide +kernel
theorem dd_X9_overlap_17 : decode Y_X9_overlap.2.1 17 = .ok (.istore_n 3, 1) := by decide +kernel
theorem dd_X9_overlap_18 : decode Y_X9_overlap.2.1 18 = .ok (.iload_n 3, 1) := by decide +kernel
theorem dd_X9_overlap_19 : decode Y_X9_overlap.2.1 19 = .ok (.ifCond .le 30, 3) := by decide +kernel
theorem dd_X9_overlap_22 : decode Y_X9_overlap.2.1 22 = .ok (.aload_n 0, 1) := by decide +kernel
theorem dd_X9_overlap_23 : decode Y_X9_overlap.2.1 23 = .ok (.iload_n 1, 1) := by decide +kernel
theorem dd_X9_overlap_24 : decode Y_X9_overlap.2.1 24 = .ok (.aload_n 0, 1) := by decide +kernel
theorem dd_X9_overlap_25 : decode Y_X9_overlap.2.1 25 = .ok (.getfield 15, 3) := by decide +kernel
theorem dd_X9_overlap_28 : decode Y_X9_overlap.2.1 28 = .ok (.iload_n 1, 1) := by decide +kernel
theorem dd_X9_overlap_29 : decode Y_X9_overlap.2.1 29 = .ok (.iaload, 1) := by decide +kernel
theorem dd_X9_overlap_30 : decode Y_X9_overlap.2.1 30 = .ok (.iload_n 3, 1) := by decide +kernel
theorem dd_X9_overlap_31 : decode Y_X9_overlap.2.1 31 = .ok (.isub, 1) := by decide +kernel
theorem dd_X9_overlap_32 : decode Y_X9_overlap.2.1 32 = .ok (.iload_n 2, 1) := by decide +kernel
theorem dd_X9_overlap_33 : decode Y_X9_overlap.2.1 33 = .ok (.iconst 0, 1) := by decide +kernel
theorem dd_X9_overlap_34 : decode Y_X9_overlap.2.1 34 = .ok (.iload_n 3, 1) := by decide +kernel
theorem dd_X9_overlap_35 : decode Y_X9_overlap.2.1 35 = .ok (.invokevirtual 57, 3) := by decide +kernel
theorem dd_X9_overlap_38 : decode Y_X9_overlap.2.1 38 = .ok (.ifCond .eq 5, 3) := by decide +kernel
theorem dd_X9_overlap_41 : decode Y_X9_overlap.2.1 41 = .ok (.iload_n 3, 1) := by decide +kernel
theorem dd_X9_overlap_42 : decode Y_X9_overlap.2.1 42 = .ok (.ireturn, 1) := by decide +kernel
theorem dd_X9_overlap_43 : decode Y_X9_overlap.2.1 43 = .ok (.iinc 3 (-1), 3) := by decide +kernel
theorem dd_X9_overlap_46 : decode Y_X9_overlap.2.1 46 = .ok (.goto (-28), 3) := by decide +kernel
theorem dd_X9_overlap_49 : decode Y_X9_overlap.2.1 49 = .ok (.iconst 0, 1) := by decide +kernel
theorem dd_X9_overlap_50 : decode Y_X9_overlap.2.1 50 = .ok (.ireturn, 1) := by decide +kernel
def F_X9_overlap_L18 (x0 : Nat) (x1 : Int32) (x2 : Int32) (K49 : zM → zO) : Nat → Int32 → zM → zO
  | 0, _, _ => none
  | n + 1, x3, M => zit (x3 ≤ 0) (K49 M) (zck (zin x1 8) (zbI (F_X9_runsAlike x0 x1 ((M (zgr x0 1) (zix x1)) - x3) x2 0 x3 M) (fun r1 M1 => zit (r1 = 0) (F_X9_overlap_L18 x0 x1 x2 K49 n (x3 + (-1)) M1) (zI x3 M1))))
def F_X9_overlap (t : Nat) (a1 : Int32) (a2 : Int32) (M : zM) : zO := zck (zin a1 8) (zck (zin a2 8) (zlt ((if (M (zgr t 1) (zix a2)) < (M (zgr t 1) (zix a1)) then M (zgr t 1) (zix a2) else M (zgr t 1) (zix a1)) - 1) (fun v1 => F_X9_overlap_L18 t a1 a2 (fun  (M2 : zM) => zI 0 M2) zN v1 M)))
set_option maxHeartbeats 1000000 in
set_option maxRecDepth 20000 in
theorem ct_X9_overlap_L18 (l : Launch) (hl : l.stackTraces = false) (G : zG) (x0 : Nat) (hx0 : zsh x0 = 9) (x1 : Int32) (x2 : Int32) (K49 : zM → zO) (hK49 : ∀  (M : zM), zEv l G Y_X9_overlap 8 0 49 [] [] M (K49 M)) : ∀ (n : Nat) (x3 : Int32) (M : zM), zEv l G Y_X9_overlap 8 0 18 [(0, .ref (G.2.1 + x0)), (1, .int x1), (2, .int x2), (3, .int x3)] [] M (F_X9_overlap_L18 x0 x1 x2 K49 n x3 M) := by
  intro n
  induction n with
  | zero => intro x3 M; exact ev_none
  | succ n ih =>
    intro x3 M
    show zEv l G Y_X9_overlap 8 0 18 [(0, .ref (G.2.1 + x0)), (1, .int x1), (2, .int x2), (3, .int x3)] [] M (zit (x3 ≤ 0) (K49 M) (zck (zin x1 8) (zbI (F_X9_runsAlike x0 x1 ((M (zgr x0 1) (zix x1)) - x3) x2 0 x3 M) (fun r1 M1 => zit (r1 = 0) (F_X9_overlap_L18 x0 x1 x2 K49 n (x3 + (-1)) M1) (zI x3 M1)))))
    refine ev_iload_n dd_X9_overlap_18 3 rfl ?_
    refine ev_if_le 49 dd_X9_overlap_19 (by decide) ?_ ?_
    · refine ev_lv (lv' := []) [] rfl ?_
      exact hK49 _
    · refine ev_aload_n dd_X9_overlap_22 0 rfl ?_
      refine ev_iload_n dd_X9_overlap_23 1 rfl ?_
      refine ev_aload_n dd_X9_overlap_24 0 rfl ?_
      refine ev_getR gf_RX9_15 dd_X9_overlap_25 hx0 (by decide) ?_
      refine ev_iload_n dd_X9_overlap_28 1 rfl ?_
      refine ev_iald dd_X9_overlap_29 ((zg_9_1 hx0).1) ((zg_9_1 hx0).2) ?_
      refine ev_iload_n dd_X9_overlap_30 3 rfl ?_
      refine ev_isub dd_X9_overlap_31 ?_
      refine ev_iload_n dd_X9_overlap_32 2 rfl ?_
      refine ev_iconst (v := 0) dd_X9_overlap_33 (by decide) ?_
      refine ev_iload_n dd_X9_overlap_34 3 rfl ?_
      refine ev_callVI (As := [.int x1, .int ((M (zgr x0 1) (zix x1)) - x3), .int x2, .int 0, .int x3]) cl_RX9_57 (ct_X9_runsAlike l hl G x0 hx0 x1 ((M (zgr x0 1) (zix x1)) - x3) x2 0 x3 M) dd_X9_overlap_35 hx0 (by decide) (Nat.le_of_ble_eq_true rfl) (Nat.le_of_ble_eq_true rfl) rfl rfl (fun r1 M1 => ?_)
      refine ev_if_eq 43 dd_X9_overlap_38 (by decide) ?_ ?_
      · refine ev_iinc (j := 3) (v := (-1)) (lv' := [(0, .ref (G.2.1 + x0)), (1, .int x1), (2, .int x2), (3, .int (x3 + (-1)))]) [1, 2, 3, 0] dd_X9_overlap_43 rfl (by decide) (by decide) rfl ?_
        refine ev_goto 18 dd_X9_overlap_46 (by decide) ?_
        exact ih _ _
      · refine ev_lv (lv' := [(3, .int x3)]) [3] rfl ?_
        refine ev_iload_n dd_X9_overlap_41 0 rfl ?_
        refine ev_lv (lv' := []) [] rfl ?_
        exact ev_iret dd_X9_overlap_42 rfl (Nat.le_of_ble_eq_true rfl) rfl
set_option maxHeartbeats 1000000 in
set_option maxRecDepth 20000 in
theorem ct_X9_overlap (l : Launch) (hl : l.stackTraces = false) (G : zG) (t : Nat) (ht : zsh t = 9) (a1 : Int32) (a2 : Int32) (M : zM) : zMt l G Y_X9_overlap 8 [.ref (G.2.1 + t), .int a1, .int a2] M (F_X9_overlap t a1 a2 M) := by
  refine zMt_of (by decide +kernel) (Nat.le_of_ble_eq_true rfl) ?_
  show zEv l G Y_X9_overlap 8 0 0 [(0, .ref (G.2.1 + t)), (1, .int a1), (2, .int a2)] [] M (zck (zin a1 8) (zck (zin a2 8) (zlt ((if (M (zgr t 1) (zix a2)) < (M (zgr t 1) (zix a1)) then M (zgr t 1) (zix a2) else M (zgr t 1) (zix a1)) - 1) (fun v1 => F_X9_overlap_L18 t a1 a2 (fun  (M2 : zM) => zI 0 M2) zN v1 M))))
  refine ev_aload_n dd_X9_overlap_0 0 rfl ?_
  refine ev_getR gf_RX9_15 dd_X9_overlap_1 ht (by decide) ?_
  refine ev_iload_n dd_X9_overlap_4 1 rfl ?_
  refine ev_iald dd_X9_overlap_5 ((zg_9_1 ht).1) ((zg_9_1 ht).2) ?_
  refine ev_aload_n dd_X9_overlap_6 0 rfl ?_
  refine ev_getR gf_RX9_15 dd_X9_overlap_7 ht (by decide) ?_
  refine ev_iload_n dd_X9_overlap_10 2 rfl ?_
  refine ev_iald dd_X9_overlap_11 ((zg_9_1 ht).1) ((zg_9_1 ht).2) ?_
  refine ev_mmin mw_RX9_44 dd_X9_overlap_12 (Nat.le_of_ble_eq_true rfl) (Nat.le_of_ble_eq_true rfl) ?_
  refine ev_iconst (v := 1) dd_X9_overlap_15 (by decide) ?_
  refine ev_isub dd_X9_overlap_16 ?_
  refine ev_topi (fun v1 => ?_)
  refine ev_istore_n (i := 3) (lv' := [(0, .ref (G.2.1 + t)), (1, .int a1), (2, .int a2), (3, .int v1)]) [1, 2, 3, 0] dd_X9_overlap_17 rfl (by decide) rfl ?_
  refine ct_X9_overlap_L18 l hl G t ht a1 a2 _ (fun M2 => ?_) zN _ _
  refine ev_iconst (v := 0) dd_X9_overlap_49 (by decide) ?_
  exact ev_iret dd_X9_overlap_50 rfl (Nat.le_of_ble_eq_true rfl) rfl
/-! X9_joinedLength -/
theorem dd_X9_joinedLength_0 : decode Y_X9_joinedLength.2.1 0 = .ok (.aload_n 0, 1) := by decide +kernel
theorem dd_X9_joinedLength_1 : decode Y_X9_joinedLength.2.1 1 = .ok (.getfield 15, 3) := by decide +kernel
theorem dd_X9_joinedLength_4 : decode Y_X9_joinedLength.2.1 4 = .ok (.iload_n 1, 1) := by decide +kernel
theorem dd_X9_joinedLength_5 : decode Y_X9_joinedLength.2.1 5 = .ok (.iaload, 1) := by decide +kernel
theorem dd_X9_joinedLength_6 : decode Y_X9_joinedLength.2.1 6 = .ok (.aload_n 0, 1) := by decide +kernel
theorem dd_X9_joinedLength_7 : decode Y_X9_joinedLength.2.1 7 = .ok (.getfield 15, 3) := by decide +kernel
theorem dd_X9_joinedLength_10 : decode Y_X9_joinedLength.2.1 10 = .ok (.iload_n 2, 1) := by decide +kernel
theorem dd_X9_joinedLength_11 : decode Y_X9_joinedLength.2.1 11 = .ok (.iaload, 1) := by decide +kernel
theorem dd_X9_joinedLength_12 : decode Y_X9_joinedLength.2.1 12 = .ok (.iadd, 1) := by decide +kernel
theorem dd_X9_joinedLength_13 : decode Y_X9_joinedLength.2.1 13 = .ok (.aload_n 0, 1) := by decide +kernel
theorem dd_X9_joinedLength_14 : decode Y_X9_joinedLength.2.1 14 = .ok (.iload_n 1, 1) := by decide +kernel
theorem dd_X9_joinedLength_15 : decode Y_X9_joinedLength.2.1 15 = .ok (.iload_n 2, 1) := by decide +kernel
theorem dd_X9_joinedLength_16 : decode Y_X9_joinedLength.2.1 16 = .ok (.invokevirtual 64, 3) := by decide +kernel
theorem dd_X9_joinedLength_19 : decode Y_X9_joinedLength.2.1 19 = .ok (.isub, 1) := by decide +kernel
theorem dd_X9_joinedLength_20 : decode Y_X9_joinedLength.2.1 20 = .ok (.ireturn, 1) := by decide +kernel
def F_X9_joinedLength (t : Nat) (a1 : Int32) (a2 : Int32) (M : zM) : zO := zck (zin a1 8) (zck (zin a2 8) (zbI (F_X9_overlap t a1 a2 M) (fun r1 M1 => zI (((M (zgr t 1) (zix a1)) + (M (zgr t 1) (zix a2))) - r1) M1)))
set_option maxHeartbeats 1000000 in
set_option maxRecDepth 20000 in
theorem ct_X9_joinedLength (l : Launch) (hl : l.stackTraces = false) (G : zG) (t : Nat) (ht : zsh t = 9) (a1 : Int32) (a2 : Int32) (M : zM) : zMt l G Y_X9_joinedLength 9 [.ref (G.2.1 + t), .int a1, .int a2] M (F_X9_joinedLength t a1 a2 M) := by
  refine zMt_of (by decide +kernel) (Nat.le_of_ble_eq_true rfl) ?_
  show zEv l G Y_X9_joinedLength 9 0 0 [(0, .ref (G.2.1 + t)), (1, .int a1), (2, .int a2)] [] M (zck (zin a1 8) (zck (zin a2 8) (zbI (F_X9_overlap t a1 a2 M) (fun r1 M1 => zI (((M (zgr t 1) (zix a1)) + (M (zgr t 1) (zix a2))) - r1) M1))))
  refine ev_aload_n dd_X9_joinedLength_0 0 rfl ?_
  refine ev_getR gf_RX9_15 dd_X9_joinedLength_1 ht (by decide) ?_
  refine ev_iload_n dd_X9_joinedLength_4 1 rfl ?_
  refine ev_iald dd_X9_joinedLength_5 ((zg_9_1 ht).1) ((zg_9_1 ht).2) ?_
  refine ev_aload_n dd_X9_joinedLength_6 0 rfl ?_
  refine ev_getR gf_RX9_15 dd_X9_joinedLength_7 ht (by decide) ?_
  refine ev_iload_n dd_X9_joinedLength_10 2 rfl ?_
  refine ev_iald dd_X9_joinedLength_11 ((zg_9_1 ht).1) ((zg_9_1 ht).2) ?_
  refine ev_iadd dd_X9_joinedLength_12 ?_
  refine ev_aload_n dd_X9_joinedLength_13 0 rfl ?_
  refine ev_lv (lv' := [(1, .int a1), (2, .int a2)]) [1, 2] rfl ?_
  refine ev_iload_n dd_X9_joinedLength_14 0 rfl ?_
  refine ev_lv (lv' := [(2, .int a2)]) [1] rfl ?_
  refine ev_iload_n dd_X9_joinedLength_15 0 rfl ?_
  refine ev_lv (lv' := []) [] rfl ?_
  refine ev_callVI (As := [.int a1, .int a2]) cl_RX9_64 (ct_X9_overlap l hl G t ht a1 a2 M) dd_X9_joinedLength_16 ht (by decide) (Nat.le_of_ble_eq_true rfl) (Nat.le_of_ble_eq_true rfl) rfl rfl (fun r1 M1 => ?_)
  refine ev_isub dd_X9_joinedLength_19 ?_
  exact ev_iret dd_X9_joinedLength_20 rfl (Nat.le_of_ble_eq_true rfl) rfl
/-! X9_joinedSign -/
theorem dd_X9_joinedSign_0 : decode Y_X9_joinedSign.2.1 0 = .ok (.iload_n 3, 1) := by decide +kernel
theorem dd_X9_joinedSign_1 : decode Y_X9_joinedSign.2.1 1 = .ok (.aload_n 0, 1) := by decide +kernel
theorem dd_X9_joinedSign_2 : decode Y_X9_joinedSign.2.1 2 = .ok (.getfield 15, 3) := by decide +kernel
theorem dd_X9_joinedSign_5 : decode Y_X9_joinedSign.2.1 5 = .ok (.iload_n 1, 1) := by decide +kernel
theorem dd_X9_joinedSign_6 : decode Y_X9_joinedSign.2.1 6 = .ok (.iaload, 1) := by decide +kernel
theorem dd_X9_joinedSign_7 : decode Y_X9_joinedSign.2.1 7 = .ok (.if_icmp .ge 12, 3) := by decide +kernel
theorem dd_X9_joinedSign_10 : decode Y_X9_joinedSign.2.1 10 = .ok (.aload_n 0, 1) := by decide +kernel
theorem dd_X9_joinedSign_11 : decode Y_X9_joinedSign.2.1 11 = .ok (.iload_n 1, 1) := by decide +kernel
theorem dd_X9_joinedSign_12 : decode Y_X9_joinedSign.2.1 12 = .ok (.iload_n 3, 1) := by decide +kernel
theorem dd_X9_joinedSign_13 : decode Y_X9_joinedSign.2.1 13 = .ok (.invokevirtual 61, 3) := by decide +kernel
theorem dd_X9_joinedSign_16 : decode Y_X9_joinedSign.2.1 16 = .ok (.goto 23, 3) := by decide +kernel
theorem dd_X9_joinedSign_19 : decode Y_X9_joinedSign.2.1 19 = .ok (.aload_n 0, 1) := by decide +kernel
theorem dd_X9_joinedSign_20 : decode Y_X9_joinedSign.2.1 20 = .ok (.iload_n 2, 1) := by decide +kernel
theorem dd_X9_joinedSign_21 : decode Y_X9_joinedSign.2.1 21 = .ok (.iload_n 3, 1) := by decide +kernel
theorem dd_X9_joinedSign_22 : decode Y_X9_joinedSign.2.1 22 = .ok (.aload_n 0, 1) := by decide +kernel
theorem dd_X9_joinedSign_23 : decode Y_X9_joinedSign.2.1 23 = .ok (.getfield 15, 3) := by decide +kernel
theorem dd_X9_joinedSign_26 : decode Y_X9_joinedSign.2.1 26 = .ok (.iload_n 1, 1) := by decide +kernel
theorem dd_X9_joinedSign_27 : decode Y_X9_joinedSign.2.1 27 = .ok (.iaload, 1) := by decide +kernel
theorem dd_X9_joinedSign_28 : decode Y_X9_joinedSign.2.1 28 = .ok (.isub, 1) := by decide +kernel
theorem dd_X9_joinedSign_29 : decode Y_X9_joinedSign.2.1 29 = .ok (.aload_n 0, 1) := by decide +kernel
theorem dd_X9_joinedSign_30 : decode Y_X9_joinedSign.2.1 30 = .ok (.iload_n 1, 1) := by decide +kernel
theorem dd_X9_joinedSign_31 : decode Y_X9_joinedSign.2.1 31 = .ok (.iload_n 2, 1) := by decide +kernel
theorem dd_X9_joinedSign_32 : decode Y_X9_joinedSign.2.1 32 = .ok (.invokevirtual 64, 3) := by decide +kernel
theorem dd_X9_joinedSign_35 : decode Y_X9_joinedSign.2.1 35 = .ok (.iadd, 1) := by decide +kernel
theorem dd_X9_joinedSign_36 : decode Y_X9_joinedSign.2.1 36 = .ok (.invokevirtual 61, 3) := by decide +kernel
theorem dd_X9_joinedSign_39 : decode Y_X9_joinedSign.2.1 39 = .ok (.ireturn, 1) := by decide +kernel
def F_X9_joinedSign (t : Nat) (a1 : Int32) (a2 : Int32) (a3 : Int32) (M : zM) : zO := zck (zin a1 8) (zjo (fun (w1 : Int32) (M4 : zM) => zI w1 M4) (fun (k1 : Int32 → zM → zO) => zit ((M (zgr t 1) (zix a1)) ≤ a3) (zck (zin a1 8) (zbI (F_X9_overlap t a1 a2 M) (fun r1 M1 => zbI (F_X9_sign t a2 ((a3 - (M (zgr t 1) (zix a1))) + r1) M1) (fun r2 M2 => k1 r2 M2)))) (zbI (F_X9_sign t a1 a3 M) (fun r3 M3 => k1 r3 M3))))
set_option maxHeartbeats 1000000 in
set_option maxRecDepth 20000 in
theorem ct_X9_joinedSign (l : Launch) (hl : l.stackTraces = false) (G : zG) (t : Nat) (ht : zsh t = 9) (a1 : Int32) (a2 : Int32) (a3 : Int32) (M : zM) : zMt l G Y_X9_joinedSign 9 [.ref (G.2.1 + t), .int a1, .int a2, .int a3] M (F_X9_joinedSign t a1 a2 a3 M) := by
  refine zMt_of (by decide +kernel) (Nat.le_of_ble_eq_true rfl) ?_
  show zEv l G Y_X9_joinedSign 9 0 0 [(0, .ref (G.2.1 + t)), (1, .int a1), (2, .int a2), (3, .int a3)] [] M (zck (zin a1 8) (zjo (fun (w1 : Int32) (M4 : zM) => zI w1 M4) (fun (k1 : Int32 → zM → zO) => zit ((M (zgr t 1) (zix a1)) ≤ a3) (zck (zin a1 8) (zbI (F_X9_overlap t a1 a2 M) (fun r1 M1 => zbI (F_X9_sign t a2 ((a3 - (M (zgr t 1) (zix a1))) + r1) M1) (fun r2 M2 => k1 r2 M2)))) (zbI (F_X9_sign t a1 a3 M) (fun r3 M3 => k1 r3 M3)))))
  refine ev_iload_n dd_X9_joinedSign_0 3 rfl ?_
  refine ev_aload_n dd_X9_joinedSign_1 0 rfl ?_
  refine ev_getR gf_RX9_15 dd_X9_joinedSign_2 ht (by decide) ?_
  refine ev_iload_n dd_X9_joinedSign_5 1 rfl ?_
  refine ev_iald dd_X9_joinedSign_6 ((zg_9_1 ht).1) ((zg_9_1 ht).2) ?_
  refine ev_jo (fun (k1 : Int32 → zM → zO) => ∀ (w1 : Int32) (M4 : zM), zEv l G Y_X9_joinedSign 9 0 39 [] [.int w1] M4 (k1 w1 M4)) ?_ (fun k1 hk1 => ?_)
  · intro w1 M4
    exact ev_iret dd_X9_joinedSign_39 rfl (Nat.le_of_ble_eq_true rfl) rfl
  · refine ev_icmp_ge 19 dd_X9_joinedSign_7 (by decide) ?_ ?_
    · refine ev_aload_n dd_X9_joinedSign_19 0 rfl ?_
      refine ev_iload_n dd_X9_joinedSign_20 2 rfl ?_
      refine ev_iload_n dd_X9_joinedSign_21 3 rfl ?_
      refine ev_lv (lv' := [(0, .ref (G.2.1 + t)), (1, .int a1), (2, .int a2)]) [0, 1, 2] rfl ?_
      refine ev_aload_n dd_X9_joinedSign_22 0 rfl ?_
      refine ev_getR gf_RX9_15 dd_X9_joinedSign_23 ht (by decide) ?_
      refine ev_iload_n dd_X9_joinedSign_26 1 rfl ?_
      refine ev_iald dd_X9_joinedSign_27 ((zg_9_1 ht).1) ((zg_9_1 ht).2) ?_
      refine ev_isub dd_X9_joinedSign_28 ?_
      refine ev_aload_n dd_X9_joinedSign_29 0 rfl ?_
      refine ev_lv (lv' := [(1, .int a1), (2, .int a2)]) [1, 2] rfl ?_
      refine ev_iload_n dd_X9_joinedSign_30 0 rfl ?_
      refine ev_lv (lv' := [(2, .int a2)]) [1] rfl ?_
      refine ev_iload_n dd_X9_joinedSign_31 0 rfl ?_
      refine ev_lv (lv' := []) [] rfl ?_
      refine ev_callVI (As := [.int a1, .int a2]) cl_RX9_64 (ct_X9_overlap l hl G t ht a1 a2 M) dd_X9_joinedSign_32 ht (by decide) (Nat.le_of_ble_eq_true rfl) (Nat.le_of_ble_eq_true rfl) rfl rfl (fun r1 M1 => ?_)
      refine ev_iadd dd_X9_joinedSign_35 ?_
      refine ev_callVI (As := [.int a2, .int ((a3 - (M (zgr t 1) (zix a1))) + r1)]) cl_RX9_61 (ct_X9_sign l hl G t ht a2 ((a3 - (M (zgr t 1) (zix a1))) + r1) M1) dd_X9_joinedSign_36 ht (by decide) (Nat.le_of_ble_eq_true rfl) (Nat.le_of_ble_eq_true rfl) rfl rfl (fun r2 M2 => ?_)
      exact hk1 _ _
    · refine ev_lv (lv' := [(0, .ref (G.2.1 + t)), (1, .int a1), (3, .int a3)]) [0, 1, 3] rfl ?_
      refine ev_aload_n dd_X9_joinedSign_10 0 rfl ?_
      refine ev_lv (lv' := [(1, .int a1), (3, .int a3)]) [1, 2] rfl ?_
      refine ev_iload_n dd_X9_joinedSign_11 0 rfl ?_
      refine ev_lv (lv' := [(3, .int a3)]) [1] rfl ?_
      refine ev_iload_n dd_X9_joinedSign_12 0 rfl ?_
      refine ev_lv (lv' := []) [] rfl ?_
      refine ev_callVI (As := [.int a1, .int a3]) cl_RX9_61 (ct_X9_sign l hl G t ht a1 a3 M) dd_X9_joinedSign_13 ht (by decide) (Nat.le_of_ble_eq_true rfl) (Nat.le_of_ble_eq_true rfl) rfl rfl (fun r3 M3 => ?_)
      refine ev_goto 39 dd_X9_joinedSign_16 (by decide) ?_
      exact hk1 _ _
/-! X11_joined -/
theorem dd_X11_joined_0 : decode Y_X11_joined.2.1 0 = .ok (.aload_n 0, 1) := by decide +kernel
theorem dd_X11_joined_1 : decode Y_X11_joined.2.1 1 = .ok (.iload_n 1, 1) := by decide +kernel
theorem dd_X11_joined_2 : decode Y_X11_joined.2.1 2 = .ok (.invokevirtual 169, 3) := by decide +kernel
theorem dd_X11_joined_5 : decode Y_X11_joined.2.1 5 = .ok (.aload_n 0, 1) := by decide +kernel
theorem dd_X11_joined_6 : decode Y_X11_joined.2.1 6 = .ok (.iload_n 2, 1) := by decide +kernel
theorem dd_X11_joined_7 : decode Y_X11_joined.2.1 7 = .ok (.invokevirtual 169, 3) := by decide +kernel
theorem dd_X11_joined_10 : decode Y_X11_joined.2.1 10 = .ok (.iload_n 1, 1) := by decide +kernel
theorem dd_X11_joined_11 : decode Y_X11_joined.2.1 11 = .ok (.iload_n 2, 1) := by decide +kernel
theorem dd_X11_joined_12 : decode Y_X11_joined.2.1 12 = .ok (.invokestatic 297, 3) := by decide +kernel
theorem dd_X11_joined_15 : decode Y_X11_joined.2.1 15 = .ok (.aload_n 0, 1) := by decide +kernel
theorem dd_X11_joined_16 : decode Y_X11_joined.2.1 16 = .ok (.getfield 19, 3) := by decide +kernel
theorem dd_X11_joined_19 : decode Y_X11_joined.2.1 19 = .ok (.getfield 172, 3) := by decide +kernel
theorem dd_X11_joined_22 : decode Y_X11_joined.2.1 22 = .ok (.iload_n 1, 1) := by decide +kernel
theorem dd_X11_joined_23 : decode Y_X11_joined.2.1 23 = .ok (.iload_n 2, 1) := by decide +kernel
theorem dd_X11_joined_24 : decode Y_X11_joined.2.1 24 = .ok (.invokevirtual 300, 3) := by decide +kernel
theorem dd_X11_joined_27 : decode Y_X11_joined.2.1 27 = .ok (.istore 4, 2) := by decide +kernel
theorem dd_X11_joined_29 : decode Y_X11_joined.2.1 29 = .ok (.iload_n 3, 1) := by decide +kernel
theorem dd_X11_joined_30 : decode Y_X11_joined.2.1 30 = .ok (.iconst (-1), 1) := by decide +kernel
theorem dd_X11_joined_31 : decode Y_X11_joined.2.1 31 = .ok (.if_icmp .ne 6, 3) := by decide +kernel
theorem dd_X11_joined_34 : decode Y_X11_joined.2.1 34 = .ok (.iload 4, 2) := by decide +kernel
theorem dd_X11_joined_36 : decode Y_X11_joined.2.1 36 = .ok (.ireturn, 1) := by decide +kernel
theorem dd_X11_joined_37 : decode Y_X11_joined.2.1 37 = .ok (.iload_n 3, 1) := by decide +kernel
theorem dd_X11_joined_38 : decode Y_X11_joined.2.1 38 = .ok (.iload 4, 2) := by decide +kernel
theorem dd_X11_joined_40 : decode Y_X11_joined.2.1 40 = .ok (.invokestatic 195, 3) := by decide +kernel
theorem dd_X11_joined_43 : decode Y_X11_joined.2.1 43 = .ok (.aload_n 0, 1) := by decide +kernel
theorem dd_X11_joined_44 : decode Y_X11_joined.2.1 44 = .ok (.getfield 19, 3) := by decide +kernel
theorem dd_X11_joined_47 : decode Y_X11_joined.2.1 47 = .ok (.getfield 172, 3) := by decide +kernel
theorem dd_X11_joined_50 : decode Y_X11_joined.2.1 50 = .ok (.iload_n 1, 1) := by decide +kernel
theorem dd_X11_joined_51 : decode Y_X11_joined.2.1 51 = .ok (.iload_n 2, 1) := by decide +kernel
theorem dd_X11_joined_52 : decode Y_X11_joined.2.1 52 = .ok (.iload_n 3, 1) := by decide +kernel
theorem dd_X11_joined_53 : decode Y_X11_joined.2.1 53 = .ok (.invokevirtual 303, 3) := by decide +kernel
theorem dd_X11_joined_56 : decode Y_X11_joined.2.1 56 = .ok (.ireturn, 1) := by decide +kernel
def F_X11_joined (t : Nat) (a1 : Int32) (a2 : Int32) (a3 : Int32) (M : zM) : zO := zbV (F_X11_needName t a1 M) (fun M1 => zbV (F_X11_needName t a2 M1) (fun M2 => zbV (F_X11_needUnlike a1 a2 M2) (fun M3 => zbI (F_X9_joinedLength (zgr (zgr t 1) 4) a1 a2 M3) (fun r1 M4 => zit (a3 = (-1)) (zI r1 M4) (zbV (F_X11_needBelow a3 r1 M4) (fun M5 => zbI (F_X9_joinedSign (zgr (zgr t 1) 4) a1 a2 a3 M5) (fun r2 M6 => zI r2 M6)))))))
set_option maxHeartbeats 1000000 in
set_option maxRecDepth 20000 in
theorem ct_X11_joined (l : Launch) (hl : l.stackTraces = false) (G : zG) (t : Nat) (ht : zsh t = 11) (a1 : Int32) (a2 : Int32) (a3 : Int32) (M : zM) : zMt l G Y_X11_joined 10 [.ref (G.2.1 + t), .int a1, .int a2, .int a3] M (F_X11_joined t a1 a2 a3 M) := by
  refine zMt_of (by decide +kernel) (Nat.le_of_ble_eq_true rfl) ?_
  show zEv l G Y_X11_joined 10 0 0 [(0, .ref (G.2.1 + t)), (1, .int a1), (2, .int a2), (3, .int a3)] [] M (zbV (F_X11_needName t a1 M) (fun M1 => zbV (F_X11_needName t a2 M1) (fun M2 => zbV (F_X11_needUnlike a1 a2 M2) (fun M3 => zbI (F_X9_joinedLength (zgr (zgr t 1) 4) a1 a2 M3) (fun r1 M4 => zit (a3 = (-1)) (zI r1 M4) (zbV (F_X11_needBelow a3 r1 M4) (fun M5 => zbI (F_X9_joinedSign (zgr (zgr t 1) 4) a1 a2 a3 M5) (fun r2 M6 => zI r2 M6))))))))
  refine ev_aload_n dd_X11_joined_0 0 rfl ?_
  refine ev_iload_n dd_X11_joined_1 1 rfl ?_
  refine ev_callVV (As := [.int a1]) cl_RX11_169 (ct_X11_needName l hl G t ht a1 M) dd_X11_joined_2 ht (by decide) (Nat.le_of_ble_eq_true rfl) (Nat.le_of_ble_eq_true rfl) rfl rfl (fun M1 => ?_)
  refine ev_aload_n dd_X11_joined_5 0 rfl ?_
  refine ev_iload_n dd_X11_joined_6 2 rfl ?_
  refine ev_callVV (As := [.int a2]) cl_RX11_169 (ct_X11_needName l hl G t ht a2 M1) dd_X11_joined_7 ht (by decide) (Nat.le_of_ble_eq_true rfl) (Nat.le_of_ble_eq_true rfl) rfl rfl (fun M2 => ?_)
  refine ev_iload_n dd_X11_joined_10 1 rfl ?_
  refine ev_iload_n dd_X11_joined_11 2 rfl ?_
  refine ev_callSV (As := [.int a1, .int a2]) cl_RX11_297 (ct_X11_needUnlike l hl G a1 a2 M2) dd_X11_joined_12 (by decide) (Nat.le_of_ble_eq_true rfl) (Nat.le_of_ble_eq_true rfl) rfl rfl (fun M3 => ?_)
  refine ev_aload_n dd_X11_joined_15 0 rfl ?_
  refine ev_getR gf_RX11_19 dd_X11_joined_16 ht (by decide) ?_
  refine ev_getR gf_RX11_172 dd_X11_joined_19 (zg_11_1 ht) (by decide) ?_
  refine ev_iload_n dd_X11_joined_22 1 rfl ?_
  refine ev_iload_n dd_X11_joined_23 2 rfl ?_
  refine ev_callVI (As := [.int a1, .int a2]) cl_RX11_300 (ct_X9_joinedLength l hl G (zgr (zgr t 1) 4) (zg_6_4 (zg_11_1 ht)) a1 a2 M3) dd_X11_joined_24 (zg_6_4 (zg_11_1 ht)) (by decide) (Nat.le_of_ble_eq_true rfl) (Nat.le_of_ble_eq_true rfl) rfl rfl (fun r1 M4 => ?_)
  refine ev_istore (i := 4) (lv' := [(0, .ref (G.2.1 + t)), (1, .int a1), (2, .int a2), (3, .int a3), (4, .int r1)]) [1, 2, 3, 4, 0] dd_X11_joined_27 (by decide) rfl ?_
  refine ev_iload_n dd_X11_joined_29 3 rfl ?_
  refine ev_iconst (v := (-1)) dd_X11_joined_30 (by decide) ?_
  refine ev_icmp_ne 37 dd_X11_joined_31 (by decide) ?_ ?_
  · refine ev_iload_n dd_X11_joined_37 3 rfl ?_
    refine ev_iload dd_X11_joined_38 4 rfl ?_
    refine ev_lv (lv' := [(0, .ref (G.2.1 + t)), (1, .int a1), (2, .int a2), (3, .int a3)]) [0, 1, 2, 3] rfl ?_
    refine ev_callSV (As := [.int a3, .int r1]) cl_RX11_195 (ct_X11_needBelow l hl G a3 r1 M4) dd_X11_joined_40 (by decide) (Nat.le_of_ble_eq_true rfl) (Nat.le_of_ble_eq_true rfl) rfl rfl (fun M5 => ?_)
    refine ev_aload_n dd_X11_joined_43 0 rfl ?_
    refine ev_lv (lv' := [(1, .int a1), (2, .int a2), (3, .int a3)]) [1, 2, 3] rfl ?_
    refine ev_getR gf_RX11_19 dd_X11_joined_44 ht (by decide) ?_
    refine ev_getR gf_RX11_172 dd_X11_joined_47 (zg_11_1 ht) (by decide) ?_
    refine ev_iload_n dd_X11_joined_50 0 rfl ?_
    refine ev_lv (lv' := [(2, .int a2), (3, .int a3)]) [1, 2] rfl ?_
    refine ev_iload_n dd_X11_joined_51 0 rfl ?_
    refine ev_lv (lv' := [(3, .int a3)]) [1] rfl ?_
    refine ev_iload_n dd_X11_joined_52 0 rfl ?_
    refine ev_lv (lv' := []) [] rfl ?_
    refine ev_callVI (As := [.int a1, .int a2, .int a3]) cl_RX11_303 (ct_X9_joinedSign l hl G (zgr (zgr t 1) 4) (zg_6_4 (zg_11_1 ht)) a1 a2 a3 M5) dd_X11_joined_53 (zg_6_4 (zg_11_1 ht)) (by decide) (Nat.le_of_ble_eq_true rfl) (Nat.le_of_ble_eq_true rfl) rfl rfl (fun r2 M6 => ?_)
    exact ev_iret dd_X11_joined_56 rfl (Nat.le_of_ble_eq_true rfl) rfl
  · refine ev_lv (lv' := [(4, .int r1)]) [4] rfl ?_
    refine ev_iload dd_X11_joined_34 0 rfl ?_
    refine ev_lv (lv' := []) [] rfl ?_
    exact ev_iret dd_X11_joined_36 rfl (Nat.le_of_ble_eq_true rfl) rfl
/-! X1_growWays -/
theorem dd_X1_growWays_0 : decode Y_X1_growWays.2.1 0 = .ok (.iload_n 1, 1) := by decide +kernel
theorem dd_X1_growWays_1 : decode Y_X1_growWays.2.1 1 = .ok (.iload_n 1, 1) := by decide +kernel
theorem dd_X1_growWays_2 : decode Y_X1_growWays.2.1 2 = .ok (.ineg, 1) := by decide +kernel
theorem dd_X1_growWays_3 : decode Y_X1_growWays.2.1 3 = .ok (.iand, 1) := by decide +kernel
theorem dd_X1_growWays_4 : decode Y_X1_growWays.2.1 4 = .ok (.iconst 1, 1) := by decide +kernel
theorem dd_X1_growWays_5 : decode Y_X1_growWays.2.1 5 = .ok (.isub, 1) := by decide +kernel
theorem dd_X1_growWays_6 : decode Y_X1_growWays.2.1 6 = .ok (.invokestatic 80, 3) := by decide +kernel
theorem dd_X1_growWays_9 : decode Y_X1_growWays.2.1 9 = .ok (.istore_n 2, 1) := by decide +kernel
theorem dd_X1_growWays_10 : decode Y_X1_growWays.2.1 10 = .ok (.iconst 0, 1) := by decide +kernel
theorem dd_X1_growWays_11 : decode Y_X1_growWays.2.1 11 = .ok (.istore_n 3, 1) := by decide +kernel
theorem dd_X1_growWays_12 : decode Y_X1_growWays.2.1 12 = .ok (.iload_n 2, 1) := by decide +kernel
theorem dd_X1_growWays_13 : decode Y_X1_growWays.2.1 13 = .ok (.istore 4, 2) := by decide +kernel
theorem dd_X1_growWays_15 : decode Y_X1_growWays.2.1 15 = .ok (.iload 4, 2) := by decide +kernel
theorem dd_X1_growWays_17 : decode Y_X1_growWays.2.1 17 = .ok (.aload_n 0, 1) := by decide +kernel
theorem dd_X1_growWays_18 : decode Y_X1_growWays.2.1 18 = .ok (.getfield 25, 3) := by decide +kernel
theorem dd_X1_growWays_21 : decode Y_X1_growWays.2.1 21 = .ok (.getfield 51, 3) := by decide +kernel
theorem dd_X1_growWays_24 : decode Y_X1_growWays.2.1 24 = .ok (.if_icmp .ge 107, 3) := by decide +kernel
theorem dd_X1_growWays_27 : decode Y_X1_growWays.2.1 27 = .ok (.aload_n 0, 1) := by decide +kernel
theorem dd_X1_growWays_28 : decode Y_X1_growWays.2.1 28 = .ok (.getfield 22, 3) := by decide +kernel
theorem dd_X1_growWays_31 : decode Y_X1_growWays.2.1 31 = .ok (.iload_n 1, 1) := by decide +kernel
theorem dd_X1_growWays_32 : decode Y_X1_growWays.2.1 32 = .ok (.iaload, 1) := by decide +kernel
theorem dd_X1_growWays_33 : decode Y_X1_growWays.2.1 33 = .ok (.iload 4, 2) := by decide +kernel
theorem dd_X1_growWays_35 : decode Y_X1_growWays.2.1 35 = .ok (.ishr, 1) := by decide +kernel
theorem dd_X1_growWays_36 : decode Y_X1_growWays.2.1 36 = .ok (.iconst 1, 1) := by decide +kernel
theorem dd_X1_growWays_37 : decode Y_X1_growWays.2.1 37 = .ok (.iand, 1) := by decide +kernel
theorem dd_X1_growWays_38 : decode Y_X1_growWays.2.1 38 = .ok (.ifCond .ne 6, 3) := by decide +kernel
theorem dd_X1_growWays_41 : decode Y_X1_growWays.2.1 41 = .ok (.goto 84, 3) := by decide +kernel
theorem dd_X1_growWays_44 : decode Y_X1_growWays.2.1 44 = .ok (.iload_n 3, 1) := by decide +kernel
theorem dd_X1_growWays_45 : decode Y_X1_growWays.2.1 45 = .ok (.ifCond .ne 13, 3) := by decide +kernel
theorem dd_X1_growWays_48 : decode Y_X1_growWays.2.1 48 = .ok (.aload_n 0, 1) := by decide +kernel
theorem dd_X1_growWays_49 : decode Y_X1_growWays.2.1 49 = .ok (.iload 4, 2) := by decide +kernel
theorem dd_X1_growWays_51 : decode Y_X1_growWays.2.1 51 = .ok (.iload_n 2, 1) := by decide +kernel
theorem dd_X1_growWays_52 : decode Y_X1_growWays.2.1 52 = .ok (.invokevirtual 54, 3) := by decide +kernel
theorem dd_X1_growWays_55 : decode Y_X1_growWays.2.1 55 = .ok (.ifCond .eq 7, 3) := by decide +kernel
theorem dd_X1_growWays_58 : decode Y_X1_growWays.2.1 58 = .ok (.iconst 1, 1) := by decide +kernel
theorem dd_X1_growWays_59 : decode Y_X1_growWays.2.1 59 = .ok (.goto 4, 3) := by decide +kernel
theorem dd_X1_growWays_62 : decode Y_X1_growWays.2.1 62 = .ok (.iconst 0, 1) := by decide +kernel
theorem dd_X1_growWays_63 : decode Y_X1_growWays.2.1 63 = .ok (.istore_n 3, 1) := by decide +kernel
theorem dd_X1_growWays_64 : decode Y_X1_growWays.2.1 64 = .ok (.iload_n 2, 1) := by decide +kernel
theorem dd_X1_growWays_65 : decode Y_X1_growWays.2.1 65 = .ok (.iconst 1, 1) := by decide +kernel
theorem dd_X1_growWays_66 : decode Y_X1_growWays.2.1 66 = .ok (.iadd, 1) := by decide +kernel
theorem dd_X1_growWays_67 : decode Y_X1_growWays.2.1 67 = .ok (.istore 5, 2) := by decide +kernel
theorem dd_X1_growWays_69 : decode Y_X1_growWays.2.1 69 = .ok (.iload 5, 2) := by decide +kernel
theorem dd_X1_growWays_71 : decode Y_X1_growWays.2.1 71 = .ok (.aload_n 0, 1) := by decide +kernel
theorem dd_X1_growWays_72 : decode Y_X1_growWays.2.1 72 = .ok (.getfield 25, 3) := by decide +kernel
theorem dd_X1_growWays_75 : decode Y_X1_growWays.2.1 75 = .ok (.getfield 51, 3) := by decide +kernel
theorem dd_X1_growWays_78 : decode Y_X1_growWays.2.1 78 = .ok (.if_icmp .ge 47, 3) := by decide +kernel
theorem dd_X1_growWays_81 : decode Y_X1_growWays.2.1 81 = .ok (.iload_n 1, 1) := by decide +kernel
theorem dd_X1_growWays_82 : decode Y_X1_growWays.2.1 82 = .ok (.iload 5, 2) := by decide +kernel
theorem dd_X1_growWays_84 : decode Y_X1_growWays.2.1 84 = .ok (.ishr, 1) := by decide +kernel
theorem dd_X1_growWays_85 : decode Y_X1_growWays.2.1 85 = .ok (.iconst 1, 1) := by decide +kernel
theorem dd_X1_growWays_86 : decode Y_X1_growWays.2.1 86 = .ok (.iand, 1) := by decide +kernel
theorem dd_X1_growWays_87 : decode Y_X1_growWays.2.1 87 = .ok (.ifCond .ne 32, 3) := by decide +kernel
theorem dd_X1_growWays_90 : decode Y_X1_growWays.2.1 90 = .ok (.aload_n 0, 1) := by decide +kernel
theorem dd_X1_growWays_91 : decode Y_X1_growWays.2.1 91 = .ok (.iload 4, 2) := by decide +kernel
theorem dd_X1_growWays_93 : decode Y_X1_growWays.2.1 93 = .ok (.iload 5, 2) := by decide +kernel
theorem dd_X1_growWays_95 : decode Y_X1_growWays.2.1 95 = .ok (.invokevirtual 54, 3) := by decide +kernel
theorem dd_X1_growWays_98 : decode Y_X1_growWays.2.1 98 = .ok (.ifCond .eq 21, 3) := by decide +kernel
theorem dd_X1_growWays_101 : decode Y_X1_growWays.2.1 101 = .ok (.aload_n 0, 1) := by decide +kernel
theorem dd_X1_growWays_102 : decode Y_X1_growWays.2.1 102 = .ok (.getfield 22, 3) := by decide +kernel
theorem dd_X1_growWays_105 : decode Y_X1_growWays.2.1 105 = .ok (.iload_n 1, 1) := by decide +kernel
theorem dd_X1_growWays_106 : decode Y_X1_growWays.2.1 106 = .ok (.iconst 1, 1) := by decide +kernel
theorem dd_X1_growWays_107 : decode Y_X1_growWays.2.1 107 = .ok (.iload 5, 2) := by decide +kernel
theorem dd_X1_growWays_109 : decode Y_X1_growWays.2.1 109 = .ok (.ishl, 1) := by decide +kernel
theorem dd_X1_growWays_110 : decode Y_X1_growWays.2.1 110 = .ok (.ior, 1) := by decide +kernel
theorem dd_X1_growWays_111 : decode Y_X1_growWays.2.1 111 = .ok (.dup2, 1) := by decide +kernel
theorem dd_X1_growWays_112 : decode Y_X1_growWays.2.1 112 = .ok (.iaload, 1) := by decide +kernel
theorem dd_X1_growWays_113 : decode Y_X1_growWays.2.1 113 = .ok (.iconst 1, 1) := by decide +kernel
theorem dd_X1_growWays_114 : decode Y_X1_growWays.2.1 114 = .ok (.iload 5, 2) := by decide +kernel
theorem dd_X1_growWays_116 : decode Y_X1_growWays.2.1 116 = .ok (.ishl, 1) := by decide +kernel
theorem dd_X1_growWays_117 : decode Y_X1_growWays.2.1 117 = .ok (.ior, 1) := by decide +kernel
theorem dd_X1_growWays_118 : decode Y_X1_growWays.2.1 118 = .ok (.iastore, 1) := by decide +kernel
theorem dd_X1_growWays_119 : decode Y_X1_growWays.2.1 119 = .ok (.iinc 5 1, 3) := by decide +kernel
theorem dd_X1_growWays_122 : decode Y_X1_growWays.2.1 122 = .ok (.goto (-53), 3) := by decide +kernel
theorem dd_X1_growWays_125 : decode Y_X1_growWays.2.1 125 = .ok (.iinc 4 1, 3) := by decide +kernel
theorem dd_X1_growWays_128 : decode Y_X1_growWays.2.1 128 = .ok (.goto (-113), 3) := by decide +kernel
theorem dd_X1_growWays_131 : decode Y_X1_growWays.2.1 131 = .ok (.iload_n 3, 1) := by decide +kernel
theorem dd_X1_growWays_132 : decode Y_X1_growWays.2.1 132 = .ok (.ireturn, 1) := by decide +kernel
def F_X1_growWays_L69 (x0 : Nat) (x1 : Int32) (x2 : Int32) (x3 : Int32) (x4 : Int32) (K125 : zM → zO) : Nat → Int32 → zM → zO
  | 0, _, _ => none
  | n + 1, x5, M => zit ((M (zgr x0 0) 0) ≤ x5) (K125 M) (zjo (fun  (M7 : zM) => F_X1_growWays_L69 x0 x1 x2 x3 x4 K125 n (x5 + 1) M7) (fun (k4 : zM → zO) => zit (((x1 >>> (x5 &&& 31)) &&& 1) = 0) (zbI (F_X1_wants x0 x4 x5 M) (fun r3 M5 => zit (r3 = 0) (k4 M5) (zck (zin (x1 ||| ((1 : Int32) <<< (x5 &&& 31))) 256) (zck (zin (x1 ||| ((1 : Int32) <<< (x5 &&& 31))) 256) (zst (zup M5 (zgr x0 5) (zix (x1 ||| ((1 : Int32) <<< (x5 &&& 31)))) ((M5 (zgr x0 5) (zix (x1 ||| ((1 : Int32) <<< (x5 &&& 31))))) ||| ((1 : Int32) <<< (x5 &&& 31)))) (fun M6 => k4 M6)))))) (k4 M)))
def F_X1_growWays_L15 (x0 : Nat) (x1 : Int32) (x2 : Int32) (K131 : Int32 → zM → zO) : Nat → Int32 → Int32 → zM → zO
  | 0, _, _, _ => none
  | n + 1, x3, x4, M => zit ((M (zgr x0 0) 0) ≤ x4) (K131 x3 M) (zck (zin x1 256) (zjo (fun (w2 : Int32) (M9 : zM) => F_X1_growWays_L15 x0 x1 x2 K131 n w2 (x4 + 1) M9) (fun (k1 : Int32 → zM → zO) => zit ((((M (zgr x0 5) (zix x1)) >>> (x4 &&& 31)) &&& 1) = 0) (k1 x3 M) (zjo (fun (w1 : Int32) (M4 : zM) => zlt (x2 + 1) (fun v1 => F_X1_growWays_L69 x0 x1 x2 w1 x4 (fun  (M8 : zM) => k1 w1 M8) zN v1 M4)) (fun (k2 : Int32 → zM → zO) => zjo (fun  (M3 : zM) => k2 1 M3) (fun (k3 : zM → zO) => zit (x3 = 0) (zbI (F_X1_wants x0 x4 x2 M) (fun r2 M2 => zit (r2 = 0) (k2 0 M2) (k3 M2))) (k3 M)))))))
def F_X1_growWays (t : Nat) (a1 : Int32) (M : zM) : zO := zbI (F_J6_bitCount_0f7a4 ((a1 &&& (-a1)) - 1) M) (fun r1 M1 => F_X1_growWays_L15 t a1 r1 (fun (y1 : Int32) (M10 : zM) => zck (zbo y1) (zI y1 M10)) zN 0 r1 M1)
set_option maxHeartbeats 1000000 in
set_option maxRecDepth 20000 in
theorem ct_X1_growWays_L69 (l : Launch) (hl : l.stackTraces = false) (G : zG) (x0 : Nat) (hx0 : zsh x0 = 1) (x1 : Int32) (x2 : Int32) (x3 : Int32) (x4 : Int32) (K125 : zM → zO) (hK125 : ∀  (M : zM), zEv l G Y_X1_growWays 4 0 125 [(0, .ref (G.2.1 + x0)), (1, .int x1), (2, .int x2), (3, .int x3), (4, .int x4)] [] M (K125 M)) : ∀ (n : Nat) (x5 : Int32) (M : zM), zEv l G Y_X1_growWays 4 0 69 [(0, .ref (G.2.1 + x0)), (1, .int x1), (2, .int x2), (3, .int x3), (4, .int x4), (5, .int x5)] [] M (F_X1_growWays_L69 x0 x1 x2 x3 x4 K125 n x5 M) := by
  intro n
  induction n with
  | zero => intro x5 M; exact ev_none
  | succ n ih =>
    intro x5 M
    show zEv l G Y_X1_growWays 4 0 69 [(0, .ref (G.2.1 + x0)), (1, .int x1), (2, .int x2), (3, .int x3), (4, .int x4), (5, .int x5)] [] M (zit ((M (zgr x0 0) 0) ≤ x5) (K125 M) (zjo (fun  (M7 : zM) => F_X1_growWays_L69 x0 x1 x2 x3 x4 K125 n (x5 + 1) M7) (fun (k4 : zM → zO) => zit (((x1 >>> (x5 &&& 31)) &&& 1) = 0) (zbI (F_X1_wants x0 x4 x5 M) (fun r3 M5 => zit (r3 = 0) (k4 M5) (zck (zin (x1 ||| ((1 : Int32) <<< (x5 &&& 31))) 256) (zck (zin (x1 ||| ((1 : Int32) <<< (x5 &&& 31))) 256) (zst (zup M5 (zgr x0 5) (zix (x1 ||| ((1 : Int32) <<< (x5 &&& 31)))) ((M5 (zgr x0 5) (zix (x1 ||| ((1 : Int32) <<< (x5 &&& 31))))) ||| ((1 : Int32) <<< (x5 &&& 31)))) (fun M6 => k4 M6)))))) (k4 M))))
    refine ev_iload dd_X1_growWays_69 5 rfl ?_
    refine ev_aload_n dd_X1_growWays_71 0 rfl ?_
    refine ev_getR gf_RX1_25 dd_X1_growWays_72 hx0 (by decide) ?_
    refine ev_getI gf_RX1_51 dd_X1_growWays_75 (zg_1_0 hx0) (by decide) ?_
    refine ev_icmp_ge 125 dd_X1_growWays_78 (by decide) ?_ ?_
    · refine ev_lv (lv' := [(0, .ref (G.2.1 + x0)), (1, .int x1), (2, .int x2), (3, .int x3), (4, .int x4)]) [0, 1, 2, 3, 4] rfl ?_
      exact hK125 _
    · refine ev_iload_n dd_X1_growWays_81 1 rfl ?_
      refine ev_iload dd_X1_growWays_82 5 rfl ?_
      refine ev_ishr dd_X1_growWays_84 ?_
      refine ev_iconst (v := 1) dd_X1_growWays_85 (by decide) ?_
      refine ev_iand dd_X1_growWays_86 ?_
      refine ev_jo (fun (k4 : zM → zO) => ∀  (M7 : zM), zEv l G Y_X1_growWays 4 0 119 [(0, .ref (G.2.1 + x0)), (1, .int x1), (2, .int x2), (3, .int x3), (4, .int x4), (5, .int x5)] [] M7 (k4 M7)) ?_ (fun k4 hk4 => ?_)
      · intro M7
        refine ev_iinc (j := 5) (v := 1) (lv' := [(0, .ref (G.2.1 + x0)), (1, .int x1), (2, .int x2), (3, .int x3), (4, .int x4), (5, .int (x5 + 1))]) [1, 2, 3, 4, 5, 0] dd_X1_growWays_119 rfl (by decide) (by decide) rfl ?_
        refine ev_goto 69 dd_X1_growWays_122 (by decide) ?_
        exact ih _ _
      · refine ev_if_ne 119 dd_X1_growWays_87 (by decide) ?_ ?_
        · exact hk4 _
        · refine ev_aload_n dd_X1_growWays_90 0 rfl ?_
          refine ev_iload dd_X1_growWays_91 4 rfl ?_
          refine ev_iload dd_X1_growWays_93 5 rfl ?_
          refine ev_callVI (As := [.int x4, .int x5]) cl_RX1_54 (ct_X1_wants l hl G x0 hx0 x4 x5 M) dd_X1_growWays_95 hx0 (by decide) (Nat.le_of_ble_eq_true rfl) (Nat.le_of_ble_eq_true rfl) rfl rfl (fun r3 M5 => ?_)
          refine ev_if_eq 119 dd_X1_growWays_98 (by decide) ?_ ?_
          · exact hk4 _
          · refine ev_aload_n dd_X1_growWays_101 0 rfl ?_
            refine ev_getR gf_RX1_22 dd_X1_growWays_102 hx0 (by decide) ?_
            refine ev_iload_n dd_X1_growWays_105 1 rfl ?_
            refine ev_iconst (v := 1) dd_X1_growWays_106 (by decide) ?_
            refine ev_iload dd_X1_growWays_107 5 rfl ?_
            refine ev_ishl dd_X1_growWays_109 ?_
            refine ev_ior dd_X1_growWays_110 ?_
            refine ev_dup2 dd_X1_growWays_111 rfl rfl ?_
            refine ev_iald dd_X1_growWays_112 ((zg_1_5 hx0).1) ((zg_1_5 hx0).2) ?_
            refine ev_iconst (v := 1) dd_X1_growWays_113 (by decide) ?_
            refine ev_iload dd_X1_growWays_114 5 rfl ?_
            refine ev_ishl dd_X1_growWays_116 ?_
            refine ev_ior dd_X1_growWays_117 ?_
            refine ev_iast dd_X1_growWays_118 ((zg_1_5 hx0).1) ((zg_1_5 hx0).2) ?_
            refine ev_st (fun M6 => ?_)
            exact hk4 _
set_option maxHeartbeats 1000000 in
set_option maxRecDepth 20000 in
theorem ct_X1_growWays_L15 (l : Launch) (hl : l.stackTraces = false) (G : zG) (x0 : Nat) (hx0 : zsh x0 = 1) (x1 : Int32) (x2 : Int32) (K131 : Int32 → zM → zO) (hK131 : ∀ (x3 : Int32) (M : zM), zEv l G Y_X1_growWays 4 0 131 [(3, .int x3)] [] M (K131 x3 M)) : ∀ (n : Nat) (x3 : Int32) (x4 : Int32) (M : zM), zEv l G Y_X1_growWays 4 0 15 [(0, .ref (G.2.1 + x0)), (1, .int x1), (2, .int x2), (3, .int x3), (4, .int x4)] [] M (F_X1_growWays_L15 x0 x1 x2 K131 n x3 x4 M) := by
  intro n
  induction n with
  | zero => intro x3 x4 M; exact ev_none
  | succ n ih =>
    intro x3 x4 M
    show zEv l G Y_X1_growWays 4 0 15 [(0, .ref (G.2.1 + x0)), (1, .int x1), (2, .int x2), (3, .int x3), (4, .int x4)] [] M (zit ((M (zgr x0 0) 0) ≤ x4) (K131 x3 M) (zck (zin x1 256) (zjo (fun (w2 : Int32) (M9 : zM) => F_X1_growWays_L15 x0 x1 x2 K131 n w2 (x4 + 1) M9) (fun (k1 : Int32 → zM → zO) => zit ((((M (zgr x0 5) (zix x1)) >>> (x4 &&& 31)) &&& 1) = 0) (k1 x3 M) (zjo (fun (w1 : Int32) (M4 : zM) => zlt (x2 + 1) (fun v1 => F_X1_growWays_L69 x0 x1 x2 w1 x4 (fun  (M8 : zM) => k1 w1 M8) zN v1 M4)) (fun (k2 : Int32 → zM → zO) => zjo (fun  (M3 : zM) => k2 1 M3) (fun (k3 : zM → zO) => zit (x3 = 0) (zbI (F_X1_wants x0 x4 x2 M) (fun r2 M2 => zit (r2 = 0) (k2 0 M2) (k3 M2))) (k3 M))))))))
    refine ev_iload dd_X1_growWays_15 4 rfl ?_
    refine ev_aload_n dd_X1_growWays_17 0 rfl ?_
    refine ev_getR gf_RX1_25 dd_X1_growWays_18 hx0 (by decide) ?_
    refine ev_getI gf_RX1_51 dd_X1_growWays_21 (zg_1_0 hx0) (by decide) ?_
    refine ev_icmp_ge 131 dd_X1_growWays_24 (by decide) ?_ ?_
    · refine ev_lv (lv' := [(3, .int x3)]) [3] rfl ?_
      exact hK131 _ _
    · refine ev_aload_n dd_X1_growWays_27 0 rfl ?_
      refine ev_getR gf_RX1_22 dd_X1_growWays_28 hx0 (by decide) ?_
      refine ev_iload_n dd_X1_growWays_31 1 rfl ?_
      refine ev_iald dd_X1_growWays_32 ((zg_1_5 hx0).1) ((zg_1_5 hx0).2) ?_
      refine ev_iload dd_X1_growWays_33 4 rfl ?_
      refine ev_ishr dd_X1_growWays_35 ?_
      refine ev_iconst (v := 1) dd_X1_growWays_36 (by decide) ?_
      refine ev_iand dd_X1_growWays_37 ?_
      refine ev_jo (fun (k1 : Int32 → zM → zO) => ∀ (w2 : Int32) (M9 : zM), zEv l G Y_X1_growWays 4 0 125 [(0, .ref (G.2.1 + x0)), (1, .int x1), (2, .int x2), (3, .int w2), (4, .int x4)] [] M9 (k1 w2 M9)) ?_ (fun k1 hk1 => ?_)
      · intro w2 M9
        refine ev_iinc (j := 4) (v := 1) (lv' := [(0, .ref (G.2.1 + x0)), (1, .int x1), (2, .int x2), (3, .int w2), (4, .int (x4 + 1))]) [1, 2, 3, 4, 0] dd_X1_growWays_125 rfl (by decide) (by decide) rfl ?_
        refine ev_goto 15 dd_X1_growWays_128 (by decide) ?_
        exact ih _ _ _
      · refine ev_if_ne 44 dd_X1_growWays_38 (by decide) ?_ ?_
        · refine ev_iload_n dd_X1_growWays_44 3 rfl ?_
          refine ev_lv (lv' := [(0, .ref (G.2.1 + x0)), (1, .int x1), (2, .int x2), (4, .int x4)]) [0, 1, 2, 4] rfl ?_
          refine ev_jo (fun (k2 : Int32 → zM → zO) => ∀ (w1 : Int32) (M4 : zM), zEv l G Y_X1_growWays 4 0 63 [(0, .ref (G.2.1 + x0)), (1, .int x1), (2, .int x2), (4, .int x4)] [.int w1] M4 (k2 w1 M4)) ?_ (fun k2 hk2 => ?_)
          · intro w1 M4
            refine ev_istore_n (i := 3) (lv' := [(0, .ref (G.2.1 + x0)), (1, .int x1), (2, .int x2), (3, .int w1), (4, .int x4)]) [1, 2, 3, 0, 4] dd_X1_growWays_63 rfl (by decide) rfl ?_
            refine ev_iload_n dd_X1_growWays_64 2 rfl ?_
            refine ev_iconst (v := 1) dd_X1_growWays_65 (by decide) ?_
            refine ev_iadd dd_X1_growWays_66 ?_
            refine ev_topi (fun v1 => ?_)
            refine ev_istore (i := 5) (lv' := [(0, .ref (G.2.1 + x0)), (1, .int x1), (2, .int x2), (3, .int w1), (4, .int x4), (5, .int v1)]) [1, 2, 3, 4, 5, 0] dd_X1_growWays_67 (by decide) rfl ?_
            refine ct_X1_growWays_L69 l hl G x0 hx0 x1 x2 w1 x4 _ (fun M8 => ?_) zN _ _
            exact hk1 _ _
          · refine ev_jo (fun (k3 : zM → zO) => ∀  (M3 : zM), zEv l G Y_X1_growWays 4 0 58 [(0, .ref (G.2.1 + x0)), (1, .int x1), (2, .int x2), (4, .int x4)] [] M3 (k3 M3)) ?_ (fun k3 hk3 => ?_)
            · intro M3
              refine ev_iconst (v := 1) dd_X1_growWays_58 (by decide) ?_
              refine ev_goto 63 dd_X1_growWays_59 (by decide) ?_
              exact hk2 _ _
            · refine ev_if_ne 58 dd_X1_growWays_45 (by decide) ?_ ?_
              · exact hk3 _
              · refine ev_aload_n dd_X1_growWays_48 0 rfl ?_
                refine ev_iload dd_X1_growWays_49 3 rfl ?_
                refine ev_iload_n dd_X1_growWays_51 2 rfl ?_
                refine ev_callVI (As := [.int x4, .int x2]) cl_RX1_54 (ct_X1_wants l hl G x0 hx0 x4 x2 M) dd_X1_growWays_52 hx0 (by decide) (Nat.le_of_ble_eq_true rfl) (Nat.le_of_ble_eq_true rfl) rfl rfl (fun r2 M2 => ?_)
                refine ev_if_eq 62 dd_X1_growWays_55 (by decide) ?_ ?_
                · refine ev_iconst (v := 0) dd_X1_growWays_62 (by decide) ?_
                  exact hk2 _ _
                · exact hk3 _
        · refine ev_goto 125 dd_X1_growWays_41 (by decide) ?_
          exact hk1 _ _
set_option maxHeartbeats 1000000 in
set_option maxRecDepth 20000 in
theorem ct_X1_growWays (l : Launch) (hl : l.stackTraces = false) (G : zG) (t : Nat) (ht : zsh t = 1) (a1 : Int32) (M : zM) : zMt l G Y_X1_growWays 4 [.ref (G.2.1 + t), .int a1] M (F_X1_growWays t a1 M) := by
  refine zMt_of (by decide +kernel) (Nat.le_of_ble_eq_true rfl) ?_
  show zEv l G Y_X1_growWays 4 0 0 [(0, .ref (G.2.1 + t)), (1, .int a1)] [] M (zbI (F_J6_bitCount_0f7a4 ((a1 &&& (-a1)) - 1) M) (fun r1 M1 => F_X1_growWays_L15 t a1 r1 (fun (y1 : Int32) (M10 : zM) => zck (zbo y1) (zI y1 M10)) zN 0 r1 M1))
  refine ev_iload_n dd_X1_growWays_0 1 rfl ?_
  refine ev_iload_n dd_X1_growWays_1 1 rfl ?_
  refine ev_ineg dd_X1_growWays_2 ?_
  refine ev_iand dd_X1_growWays_3 ?_
  refine ev_iconst (v := 1) dd_X1_growWays_4 (by decide) ?_
  refine ev_isub dd_X1_growWays_5 ?_
  refine ev_callSI (As := [.int ((a1 &&& (-a1)) - 1)]) cl_RX1_80 (ct_J6_bitCount_0f7a4 l hl G ((a1 &&& (-a1)) - 1) M) dd_X1_growWays_6 (by decide) (Nat.le_of_ble_eq_true rfl) (Nat.le_of_ble_eq_true rfl) rfl rfl (fun r1 M1 => ?_)
  refine ev_istore_n (i := 2) (lv' := [(0, .ref (G.2.1 + t)), (1, .int a1), (2, .int r1)]) [1, 2, 0] dd_X1_growWays_9 rfl (by decide) rfl ?_
  refine ev_iconst (v := 0) dd_X1_growWays_10 (by decide) ?_
  refine ev_istore_n (i := 3) (lv' := [(0, .ref (G.2.1 + t)), (1, .int a1), (2, .int r1), (3, .int 0)]) [1, 2, 3, 0] dd_X1_growWays_11 rfl (by decide) rfl ?_
  refine ev_iload_n dd_X1_growWays_12 2 rfl ?_
  refine ev_istore (i := 4) (lv' := [(0, .ref (G.2.1 + t)), (1, .int a1), (2, .int r1), (3, .int 0), (4, .int r1)]) [1, 2, 3, 4, 0] dd_X1_growWays_13 (by decide) rfl ?_
  refine ct_X1_growWays_L15 l hl G t ht a1 r1 _ (fun y1 M10 => ?_) zN _ _ _
  refine ev_iload_n dd_X1_growWays_131 0 rfl ?_
  refine ev_lv (lv' := []) [] rfl ?_
  exact ev_zret dd_X1_growWays_132 rfl (Nat.le_of_ble_eq_true rfl) rfl
/-! X1_smallestLeaving -/
theorem dd_X1_smallestLeaving_0 : decode Y_X1_smallestLeaving.2.1 0 = .ok (.iconst 1, 1) := by decide +kernel
theorem dd_X1_smallestLeaving_1 : decode Y_X1_smallestLeaving.2.1 1 = .ok (.aload_n 0, 1) := by decide +kernel
theorem dd_X1_smallestLeaving_2 : decode Y_X1_smallestLeaving.2.1 2 = .ok (.getfield 25, 3) := by decide +kernel
theorem dd_X1_smallestLeaving_5 : decode Y_X1_smallestLeaving.2.1 5 = .ok (.getfield 51, 3) := by decide +kernel
theorem dd_X1_smallestLeaving_8 : decode Y_X1_smallestLeaving.2.1 8 = .ok (.ishl, 1) := by decide +kernel
theorem dd_X1_smallestLeaving_9 : decode Y_X1_smallestLeaving.2.1 9 = .ok (.istore_n 1, 1) := by decide +kernel
theorem dd_X1_smallestLeaving_10 : decode Y_X1_smallestLeaving.2.1 10 = .ok (.aload_n 0, 1) := by decide +kernel
theorem dd_X1_smallestLeaving_11 : decode Y_X1_smallestLeaving.2.1 11 = .ok (.getfield 22, 3) := by decide +kernel
theorem dd_X1_smallestLeaving_14 : decode Y_X1_smallestLeaving.2.1 14 = .ok (.iconst 0, 1) := by decide +kernel
theorem dd_X1_smallestLeaving_15 : decode Y_X1_smallestLeaving.2.1 15 = .ok (.invokestatic 74, 3) := by decide +kernel
theorem dd_X1_smallestLeaving_18 : decode Y_X1_smallestLeaving.2.1 18 = .ok (.iconst 0, 1) := by decide +kernel
theorem dd_X1_smallestLeaving_19 : decode Y_X1_smallestLeaving.2.1 19 = .ok (.istore_n 2, 1) := by decide +kernel
theorem dd_X1_smallestLeaving_20 : decode Y_X1_smallestLeaving.2.1 20 = .ok (.iload_n 2, 1) := by decide +kernel
theorem dd_X1_smallestLeaving_21 : decode Y_X1_smallestLeaving.2.1 21 = .ok (.aload_n 0, 1) := by decide +kernel
theorem dd_X1_smallestLeaving_22 : decode Y_X1_smallestLeaving.2.1 22 = .ok (.getfield 25, 3) := by decide +kernel
theorem dd_X1_smallestLeaving_25 : decode Y_X1_smallestLeaving.2.1 25 = .ok (.getfield 51, 3) := by decide +kernel
theorem dd_X1_smallestLeaving_28 : decode Y_X1_smallestLeaving.2.1 28 = .ok (.if_icmp .ge 20, 3) := by decide +kernel
theorem dd_X1_smallestLeaving_31 : decode Y_X1_smallestLeaving.2.1 31 = .ok (.aload_n 0, 1) := by decide +kernel
theorem dd_X1_smallestLeaving_32 : decode Y_X1_smallestLeaving.2.1 32 = .ok (.getfield 22, 3) := by decide +kernel
theorem dd_X1_smallestLeaving_35 : decode Y_X1_smallestLeaving.2.1 35 = .ok (.iconst 1, 1) := by decide +kernel
theorem dd_X1_smallestLeaving_36 : decode Y_X1_smallestLeaving.2.1 36 = .ok (.iload_n 2, 1) := by decide +kernel
theorem dd_X1_smallestLeaving_37 : decode Y_X1_smallestLeaving.2.1 37 = .ok (.ishl, 1) := by decide +kernel
theorem dd_X1_smallestLeaving_38 : decode Y_X1_smallestLeaving.2.1 38 = .ok (.iconst 1, 1) := by decide +kernel
theorem dd_X1_smallestLeaving_39 : decode Y_X1_smallestLeaving.2.1 39 = .ok (.iload_n 2, 1) := by decide +kernel
theorem dd_X1_smallestLeaving_40 : decode Y_X1_smallestLeaving.2.1 40 = .ok (.ishl, 1) := by decide +kernel
theorem dd_X1_smallestLeaving_41 : decode Y_X1_smallestLeaving.2.1 41 = .ok (.iastore, 1) := by decide +kernel
theorem dd_X1_smallestLeaving_42 : decode Y_X1_smallestLeaving.2.1 42 = .ok (.iinc 2 1, 3) := by decide +kernel
theorem dd_X1_smallestLeaving_45 : decode Y_X1_smallestLeaving.2.1 45 = .ok (.goto (-25), 3) := by decide +kernel
theorem dd_X1_smallestLeaving_48 : decode Y_X1_smallestLeaving.2.1 48 = .ok (.iconst (-1), 1) := by decide +kernel
theorem dd_X1_smallestLeaving_49 : decode Y_X1_smallestLeaving.2.1 49 = .ok (.istore_n 2, 1) := by decide +kernel
theorem dd_X1_smallestLeaving_50 : decode Y_X1_smallestLeaving.2.1 50 = .ok (.iconst 1, 1) := by decide +kernel
theorem dd_X1_smallestLeaving_51 : decode Y_X1_smallestLeaving.2.1 51 = .ok (.istore_n 3, 1) := by decide +kernel
theorem dd_X1_smallestLeaving_52 : decode Y_X1_smallestLeaving.2.1 52 = .ok (.iload_n 3, 1) := by decide +kernel
theorem dd_X1_smallestLeaving_53 : decode Y_X1_smallestLeaving.2.1 53 = .ok (.iload_n 1, 1) := by decide +kernel
theorem dd_X1_smallestLeaving_54 : decode Y_X1_smallestLeaving.2.1 54 = .ok (.if_icmp .ge 47, 3) := by decide +kernel
theorem dd_X1_smallestLeaving_57 : decode Y_X1_smallestLeaving.2.1 57 = .ok (.iload_n 2, 1) := by decide +kernel
theorem dd_X1_smallestLeaving_58 : decode Y_X1_smallestLeaving.2.1 58 = .ok (.iconst (-1), 1) := by decide +kernel
theorem dd_X1_smallestLeaving_59 : decode Y_X1_smallestLeaving.2.1 59 = .ok (.if_icmp .eq 14, 3) := by decide +kernel
theorem dd_X1_smallestLeaving_62 : decode Y_X1_smallestLeaving.2.1 62 = .ok (.iload_n 3, 1) := by decide +kernel
theorem dd_X1_smallestLeaving_63 : decode Y_X1_smallestLeaving.2.1 63 = .ok (.invokestatic 80, 3) := by decide +kernel
theorem dd_X1_smallestLeaving_66 : decode Y_X1_smallestLeaving.2.1 66 = .ok (.iload_n 2, 1) := by decide +kernel
theorem dd_X1_smallestLeaving_67 : decode Y_X1_smallestLeaving.2.1 67 = .ok (.invokestatic 80, 3) := by decide +kernel
theorem dd_X1_smallestLeaving_70 : decode Y_X1_smallestLeaving.2.1 70 = .ok (.if_icmp .ge 7, 3) := by decide +kernel
theorem dd_X1_smallestLeaving_73 : decode Y_X1_smallestLeaving.2.1 73 = .ok (.iconst 1, 1) := by decide +kernel
theorem dd_X1_smallestLeaving_74 : decode Y_X1_smallestLeaving.2.1 74 = .ok (.goto 4, 3) := by decide +kernel
theorem dd_X1_smallestLeaving_77 : decode Y_X1_smallestLeaving.2.1 77 = .ok (.iconst 0, 1) := by decide +kernel
theorem dd_X1_smallestLeaving_78 : decode Y_X1_smallestLeaving.2.1 78 = .ok (.istore 4, 2) := by decide +kernel
theorem dd_X1_smallestLeaving_80 : decode Y_X1_smallestLeaving.2.1 80 = .ok (.aload_n 0, 1) := by decide +kernel
theorem dd_X1_smallestLeaving_81 : decode Y_X1_smallestLeaving.2.1 81 = .ok (.iload_n 3, 1) := by decide +kernel
theorem dd_X1_smallestLeaving_82 : decode Y_X1_smallestLeaving.2.1 82 = .ok (.invokevirtual 85, 3) := by decide +kernel
theorem dd_X1_smallestLeaving_85 : decode Y_X1_smallestLeaving.2.1 85 = .ok (.ifCond .eq 10, 3) := by decide +kernel
theorem dd_X1_smallestLeaving_88 : decode Y_X1_smallestLeaving.2.1 88 = .ok (.iload 4, 2) := by decide +kernel
theorem dd_X1_smallestLeaving_90 : decode Y_X1_smallestLeaving.2.1 90 = .ok (.ifCond .eq 5, 3) := by decide +kernel
theorem dd_X1_smallestLeaving_93 : decode Y_X1_smallestLeaving.2.1 93 = .ok (.iload_n 3, 1) := by decide +kernel
theorem dd_X1_smallestLeaving_94 : decode Y_X1_smallestLeaving.2.1 94 = .ok (.istore_n 2, 1) := by decide +kernel
theorem dd_X1_smallestLeaving_95 : decode Y_X1_smallestLeaving.2.1 95 = .ok (.iinc 3 1, 3) := by decide +kernel
theorem dd_X1_smallestLeaving_98 : decode Y_X1_smallestLeaving.2.1 98 = .ok (.goto (-46), 3) := by decide +kernel
theorem dd_X1_smallestLeaving_101 : decode Y_X1_smallestLeaving.2.1 101 = .ok (.iload_n 2, 1) := by decide +kernel
theorem dd_X1_smallestLeaving_102 : decode Y_X1_smallestLeaving.2.1 102 = .ok (.ireturn, 1) := by decide +kernel
def F_X1_smallestLeaving_L20 (x0 : Nat) (x1 : Int32) (K48 : zM → zO) : Nat → Int32 → zM → zO
  | 0, _, _ => none
  | n + 1, x2, M => zit ((M (zgr x0 0) 0) ≤ x2) (K48 M) (zck (zin ((1 : Int32) <<< (x2 &&& 31)) 256) (zst (zup M (zgr x0 5) (zix ((1 : Int32) <<< (x2 &&& 31))) ((1 : Int32) <<< (x2 &&& 31))) (fun M2 => F_X1_smallestLeaving_L20 x0 x1 K48 n (x2 + 1) M2)))
def F_X1_smallestLeaving_L52 (x0 : Nat) (x1 : Int32) (K101 : Int32 → zM → zO) : Nat → Int32 → Int32 → zM → zO
  | 0, _, _, _ => none
  | n + 1, x2, x3, M => zit (x1 ≤ x3) (K101 x2 M) (zjo (fun (w1 : Int32) (M7 : zM) => zbI (F_X1_growWays x0 x3 M7) (fun r3 M8 => zjo (fun (w2 : Int32) (M9 : zM) => F_X1_smallestLeaving_L52 x0 x1 K101 n w2 (x3 + 1) M9) (fun (k3 : Int32 → zM → zO) => zit (r3 = 0) (k3 x2 M8) (zit (w1 = 0) (k3 x2 M8) (k3 x3 M8))))) (fun (k1 : Int32 → zM → zO) => zjo (fun  (M6 : zM) => k1 1 M6) (fun (k2 : zM → zO) => zit (x2 = (-1)) (k2 M) (zbI (F_J6_bitCount_0f7a4 x3 M) (fun r1 M4 => zbI (F_J6_bitCount_0f7a4 x2 M4) (fun r2 M5 => zit (r2 ≤ r1) (k1 0 M5) (k2 M5)))))))
def F_X1_smallestLeaving (t : Nat) (M : zM) : zO := zlt ((1 : Int32) <<< ((M (zgr t 0) 0) &&& 31)) (fun v1 => zbV (F_J7_fill_53178 (zgr t 5) 0 M) (fun M1 => F_X1_smallestLeaving_L20 t v1 (fun  (M3 : zM) => F_X1_smallestLeaving_L52 t v1 (fun (y1 : Int32) (M10 : zM) => zI y1 M10) zN (-1) 1 M3) zN 0 M1))
set_option maxHeartbeats 1000000 in
set_option maxRecDepth 20000 in
theorem ct_X1_smallestLeaving_L20 (l : Launch) (hl : l.stackTraces = false) (G : zG) (x0 : Nat) (hx0 : zsh x0 = 1) (x1 : Int32) (K48 : zM → zO) (hK48 : ∀  (M : zM), zEv l G Y_X1_smallestLeaving 5 0 48 [(0, .ref (G.2.1 + x0)), (1, .int x1)] [] M (K48 M)) : ∀ (n : Nat) (x2 : Int32) (M : zM), zEv l G Y_X1_smallestLeaving 5 0 20 [(0, .ref (G.2.1 + x0)), (1, .int x1), (2, .int x2)] [] M (F_X1_smallestLeaving_L20 x0 x1 K48 n x2 M) := by
  intro n
  induction n with
  | zero => intro x2 M; exact ev_none
  | succ n ih =>
    intro x2 M
    show zEv l G Y_X1_smallestLeaving 5 0 20 [(0, .ref (G.2.1 + x0)), (1, .int x1), (2, .int x2)] [] M (zit ((M (zgr x0 0) 0) ≤ x2) (K48 M) (zck (zin ((1 : Int32) <<< (x2 &&& 31)) 256) (zst (zup M (zgr x0 5) (zix ((1 : Int32) <<< (x2 &&& 31))) ((1 : Int32) <<< (x2 &&& 31))) (fun M2 => F_X1_smallestLeaving_L20 x0 x1 K48 n (x2 + 1) M2))))
    refine ev_iload_n dd_X1_smallestLeaving_20 2 rfl ?_
    refine ev_aload_n dd_X1_smallestLeaving_21 0 rfl ?_
    refine ev_getR gf_RX1_25 dd_X1_smallestLeaving_22 hx0 (by decide) ?_
    refine ev_getI gf_RX1_51 dd_X1_smallestLeaving_25 (zg_1_0 hx0) (by decide) ?_
    refine ev_icmp_ge 48 dd_X1_smallestLeaving_28 (by decide) ?_ ?_
    · refine ev_lv (lv' := [(0, .ref (G.2.1 + x0)), (1, .int x1)]) [0, 1] rfl ?_
      exact hK48 _
    · refine ev_aload_n dd_X1_smallestLeaving_31 0 rfl ?_
      refine ev_getR gf_RX1_22 dd_X1_smallestLeaving_32 hx0 (by decide) ?_
      refine ev_iconst (v := 1) dd_X1_smallestLeaving_35 (by decide) ?_
      refine ev_iload_n dd_X1_smallestLeaving_36 2 rfl ?_
      refine ev_ishl dd_X1_smallestLeaving_37 ?_
      refine ev_iconst (v := 1) dd_X1_smallestLeaving_38 (by decide) ?_
      refine ev_iload_n dd_X1_smallestLeaving_39 2 rfl ?_
      refine ev_ishl dd_X1_smallestLeaving_40 ?_
      refine ev_iast dd_X1_smallestLeaving_41 ((zg_1_5 hx0).1) ((zg_1_5 hx0).2) ?_
      refine ev_st (fun M2 => ?_)
      refine ev_iinc (j := 2) (v := 1) (lv' := [(0, .ref (G.2.1 + x0)), (1, .int x1), (2, .int (x2 + 1))]) [1, 2, 0] dd_X1_smallestLeaving_42 rfl (by decide) (by decide) rfl ?_
      refine ev_goto 20 dd_X1_smallestLeaving_45 (by decide) ?_
      exact ih _ _
set_option maxHeartbeats 1000000 in
set_option maxRecDepth 20000 in
theorem ct_X1_smallestLeaving_L52 (l : Launch) (hl : l.stackTraces = false) (G : zG) (x0 : Nat) (hx0 : zsh x0 = 1) (x1 : Int32) (K101 : Int32 → zM → zO) (hK101 : ∀ (x2 : Int32) (M : zM), zEv l G Y_X1_smallestLeaving 5 0 101 [(2, .int x2)] [] M (K101 x2 M)) : ∀ (n : Nat) (x2 : Int32) (x3 : Int32) (M : zM), zEv l G Y_X1_smallestLeaving 5 0 52 [(0, .ref (G.2.1 + x0)), (1, .int x1), (2, .int x2), (3, .int x3)] [] M (F_X1_smallestLeaving_L52 x0 x1 K101 n x2 x3 M) := by
  intro n
  induction n with
  | zero => intro x2 x3 M; exact ev_none
  | succ n ih =>
    intro x2 x3 M
    show zEv l G Y_X1_smallestLeaving 5 0 52 [(0, .ref (G.2.1 + x0)), (1, .int x1), (2, .int x2), (3, .int x3)] [] M (zit (x1 ≤ x3) (K101 x2 M) (zjo (fun (w1 : Int32) (M7 : zM) => zbI (F_X1_growWays x0 x3 M7) (fun r3 M8 => zjo (fun (w2 : Int32) (M9 : zM) => F_X1_smallestLeaving_L52 x0 x1 K101 n w2 (x3 + 1) M9) (fun (k3 : Int32 → zM → zO) => zit (r3 = 0) (k3 x2 M8) (zit (w1 = 0) (k3 x2 M8) (k3 x3 M8))))) (fun (k1 : Int32 → zM → zO) => zjo (fun  (M6 : zM) => k1 1 M6) (fun (k2 : zM → zO) => zit (x2 = (-1)) (k2 M) (zbI (F_J6_bitCount_0f7a4 x3 M) (fun r1 M4 => zbI (F_J6_bitCount_0f7a4 x2 M4) (fun r2 M5 => zit (r2 ≤ r1) (k1 0 M5) (k2 M5))))))))
    refine ev_iload_n dd_X1_smallestLeaving_52 3 rfl ?_
    refine ev_iload_n dd_X1_smallestLeaving_53 1 rfl ?_
    refine ev_icmp_ge 101 dd_X1_smallestLeaving_54 (by decide) ?_ ?_
    · refine ev_lv (lv' := [(2, .int x2)]) [2] rfl ?_
      exact hK101 _ _
    · refine ev_iload_n dd_X1_smallestLeaving_57 2 rfl ?_
      refine ev_iconst (v := (-1)) dd_X1_smallestLeaving_58 (by decide) ?_
      refine ev_jo (fun (k1 : Int32 → zM → zO) => ∀ (w1 : Int32) (M7 : zM), zEv l G Y_X1_smallestLeaving 5 0 78 [(0, .ref (G.2.1 + x0)), (1, .int x1), (2, .int x2), (3, .int x3)] [.int w1] M7 (k1 w1 M7)) ?_ (fun k1 hk1 => ?_)
      · intro w1 M7
        refine ev_istore (i := 4) (lv' := [(0, .ref (G.2.1 + x0)), (1, .int x1), (2, .int x2), (3, .int x3), (4, .int w1)]) [1, 2, 3, 4, 0] dd_X1_smallestLeaving_78 (by decide) rfl ?_
        refine ev_aload_n dd_X1_smallestLeaving_80 0 rfl ?_
        refine ev_iload_n dd_X1_smallestLeaving_81 3 rfl ?_
        refine ev_callVI (As := [.int x3]) cl_RX1_85 (ct_X1_growWays l hl G x0 hx0 x3 M7) dd_X1_smallestLeaving_82 hx0 (by decide) (Nat.le_of_ble_eq_true rfl) (Nat.le_of_ble_eq_true rfl) rfl rfl (fun r3 M8 => ?_)
        refine ev_jo (fun (k3 : Int32 → zM → zO) => ∀ (w2 : Int32) (M9 : zM), zEv l G Y_X1_smallestLeaving 5 0 95 [(0, .ref (G.2.1 + x0)), (1, .int x1), (2, .int w2), (3, .int x3)] [] M9 (k3 w2 M9)) ?_ (fun k3 hk3 => ?_)
        · intro w2 M9
          refine ev_iinc (j := 3) (v := 1) (lv' := [(0, .ref (G.2.1 + x0)), (1, .int x1), (2, .int w2), (3, .int (x3 + 1))]) [1, 2, 3, 0] dd_X1_smallestLeaving_95 rfl (by decide) (by decide) rfl ?_
          refine ev_goto 52 dd_X1_smallestLeaving_98 (by decide) ?_
          exact ih _ _ _
        · refine ev_if_eq 95 dd_X1_smallestLeaving_85 (by decide) ?_ ?_
          · refine ev_lv (lv' := [(0, .ref (G.2.1 + x0)), (1, .int x1), (2, .int x2), (3, .int x3)]) [0, 1, 2, 3] rfl ?_
            exact hk3 _ _
          · refine ev_iload dd_X1_smallestLeaving_88 4 rfl ?_
            refine ev_lv (lv' := [(0, .ref (G.2.1 + x0)), (1, .int x1), (2, .int x2), (3, .int x3)]) [0, 1, 2, 3] rfl ?_
            refine ev_if_eq 95 dd_X1_smallestLeaving_90 (by decide) ?_ ?_
            · exact hk3 _ _
            · refine ev_lv (lv' := [(0, .ref (G.2.1 + x0)), (1, .int x1), (3, .int x3)]) [0, 1, 3] rfl ?_
              refine ev_iload_n dd_X1_smallestLeaving_93 2 rfl ?_
              refine ev_istore_n (i := 2) (lv' := [(0, .ref (G.2.1 + x0)), (1, .int x1), (2, .int x3), (3, .int x3)]) [1, 2, 0, 3] dd_X1_smallestLeaving_94 rfl (by decide) rfl ?_
              exact hk3 _ _
      · refine ev_jo (fun (k2 : zM → zO) => ∀  (M6 : zM), zEv l G Y_X1_smallestLeaving 5 0 73 [(0, .ref (G.2.1 + x0)), (1, .int x1), (2, .int x2), (3, .int x3)] [] M6 (k2 M6)) ?_ (fun k2 hk2 => ?_)
        · intro M6
          refine ev_iconst (v := 1) dd_X1_smallestLeaving_73 (by decide) ?_
          refine ev_goto 78 dd_X1_smallestLeaving_74 (by decide) ?_
          exact hk1 _ _
        · refine ev_icmp_eq 73 dd_X1_smallestLeaving_59 (by decide) ?_ ?_
          · exact hk2 _
          · refine ev_iload_n dd_X1_smallestLeaving_62 3 rfl ?_
            refine ev_callSI (As := [.int x3]) cl_RX1_80 (ct_J6_bitCount_0f7a4 l hl G x3 M) dd_X1_smallestLeaving_63 (by decide) (Nat.le_of_ble_eq_true rfl) (Nat.le_of_ble_eq_true rfl) rfl rfl (fun r1 M4 => ?_)
            refine ev_iload_n dd_X1_smallestLeaving_66 2 rfl ?_
            refine ev_callSI (As := [.int x2]) cl_RX1_80 (ct_J6_bitCount_0f7a4 l hl G x2 M4) dd_X1_smallestLeaving_67 (by decide) (Nat.le_of_ble_eq_true rfl) (Nat.le_of_ble_eq_true rfl) rfl rfl (fun r2 M5 => ?_)
            refine ev_icmp_ge 77 dd_X1_smallestLeaving_70 (by decide) ?_ ?_
            · refine ev_iconst (v := 0) dd_X1_smallestLeaving_77 (by decide) ?_
              exact hk1 _ _
            · exact hk2 _
set_option maxHeartbeats 1000000 in
set_option maxRecDepth 20000 in
theorem ct_X1_smallestLeaving (l : Launch) (hl : l.stackTraces = false) (G : zG) (t : Nat) (ht : zsh t = 1) (M : zM) : zMt l G Y_X1_smallestLeaving 5 [.ref (G.2.1 + t)] M (F_X1_smallestLeaving t M) := by
  refine zMt_of (by decide +kernel) (Nat.le_of_ble_eq_true rfl) ?_
  show zEv l G Y_X1_smallestLeaving 5 0 0 [(0, .ref (G.2.1 + t))] [] M (zlt ((1 : Int32) <<< ((M (zgr t 0) 0) &&& 31)) (fun v1 => zbV (F_J7_fill_53178 (zgr t 5) 0 M) (fun M1 => F_X1_smallestLeaving_L20 t v1 (fun  (M3 : zM) => F_X1_smallestLeaving_L52 t v1 (fun (y1 : Int32) (M10 : zM) => zI y1 M10) zN (-1) 1 M3) zN 0 M1)))
  refine ev_iconst (v := 1) dd_X1_smallestLeaving_0 (by decide) ?_
  refine ev_aload_n dd_X1_smallestLeaving_1 0 rfl ?_
  refine ev_getR gf_RX1_25 dd_X1_smallestLeaving_2 ht (by decide) ?_
  refine ev_getI gf_RX1_51 dd_X1_smallestLeaving_5 (zg_1_0 ht) (by decide) ?_
  refine ev_ishl dd_X1_smallestLeaving_8 ?_
  refine ev_topi (fun v1 => ?_)
  refine ev_istore_n (i := 1) (lv' := [(0, .ref (G.2.1 + t)), (1, .int v1)]) [1, 0] dd_X1_smallestLeaving_9 rfl (by decide) rfl ?_
  refine ev_aload_n dd_X1_smallestLeaving_10 0 rfl ?_
  refine ev_getR gf_RX1_22 dd_X1_smallestLeaving_11 ht (by decide) ?_
  refine ev_iconst (v := 0) dd_X1_smallestLeaving_14 (by decide) ?_
  refine ev_callSV (As := [.ref (G.2.1 + (zgr t 5)), .int 0]) cl_RX1_74 (ct_J7_fill_53178 l hl G (zgr t 5) ((zg_1_5 ht).1) 0 M) dd_X1_smallestLeaving_15 (by decide) (Nat.le_of_ble_eq_true rfl) (Nat.le_of_ble_eq_true rfl) rfl rfl (fun M1 => ?_)
  refine ev_iconst (v := 0) dd_X1_smallestLeaving_18 (by decide) ?_
  refine ev_istore_n (i := 2) (lv' := [(0, .ref (G.2.1 + t)), (1, .int v1), (2, .int 0)]) [1, 2, 0] dd_X1_smallestLeaving_19 rfl (by decide) rfl ?_
  refine ct_X1_smallestLeaving_L20 l hl G t ht v1 _ (fun M3 => ?_) zN _ _
  refine ev_iconst (v := (-1)) dd_X1_smallestLeaving_48 (by decide) ?_
  refine ev_istore_n (i := 2) (lv' := [(0, .ref (G.2.1 + t)), (1, .int v1), (2, .int (-1))]) [1, 2, 0] dd_X1_smallestLeaving_49 rfl (by decide) rfl ?_
  refine ev_iconst (v := 1) dd_X1_smallestLeaving_50 (by decide) ?_
  refine ev_istore_n (i := 3) (lv' := [(0, .ref (G.2.1 + t)), (1, .int v1), (2, .int (-1)), (3, .int 1)]) [1, 2, 3, 0] dd_X1_smallestLeaving_51 rfl (by decide) rfl ?_
  refine ct_X1_smallestLeaving_L52 l hl G t ht v1 _ (fun y1 M10 => ?_) zN _ _ _
  refine ev_iload_n dd_X1_smallestLeaving_101 0 rfl ?_
  refine ev_lv (lv' := []) [] rfl ?_
  exact ev_iret dd_X1_smallestLeaving_102 rfl (Nat.le_of_ble_eq_true rfl) rfl
/-! X11_leave -/
theorem dd_X11_leave_0 : decode Y_X11_leave.2.1 0 = .ok (.aload_n 0, 1) := by decide +kernel
theorem dd_X11_leave_1 : decode Y_X11_leave.2.1 1 = .ok (.getfield 65, 3) := by decide +kernel
theorem dd_X11_leave_4 : decode Y_X11_leave.2.1 4 = .ok (.invokevirtual 266, 3) := by decide +kernel
theorem dd_X11_leave_7 : decode Y_X11_leave.2.1 7 = .ok (.ireturn, 1) := by decide +kernel
def F_X11_leave (t : Nat) (M : zM) : zO := zbI (F_X1_smallestLeaving (zgr t 9) M) (fun r1 M1 => zI r1 M1)
set_option maxHeartbeats 1000000 in
set_option maxRecDepth 20000 in
theorem ct_X11_leave (l : Launch) (hl : l.stackTraces = false) (G : zG) (t : Nat) (ht : zsh t = 11) (M : zM) : zMt l G Y_X11_leave 6 [.ref (G.2.1 + t)] M (F_X11_leave t M) := by
  refine zMt_of (by decide +kernel) (Nat.le_of_ble_eq_true rfl) ?_
  show zEv l G Y_X11_leave 6 0 0 [(0, .ref (G.2.1 + t))] [] M (zbI (F_X1_smallestLeaving (zgr t 9) M) (fun r1 M1 => zI r1 M1))
  refine ev_aload_n dd_X11_leave_0 0 rfl ?_
  refine ev_lv (lv' := []) [] rfl ?_
  refine ev_getR gf_RX11_65 dd_X11_leave_1 ht (by decide) ?_
  refine ev_callVI (As := []) cl_RX11_266 (ct_X1_smallestLeaving l hl G (zgr t 9) (zg_11_9 ht) M) dd_X11_leave_4 (zg_11_9 ht) (by decide) (Nat.le_of_ble_eq_true rfl) (Nat.le_of_ble_eq_true rfl) rfl rfl (fun r1 M1 => ?_)
  exact ev_iret dd_X11_leave_7 rfl (Nat.le_of_ble_eq_true rfl) rfl
/-! X11_letter -/
theorem dd_X11_letter_0 : decode Y_X11_letter.2.1 0 = .ok (.aload_n 0, 1) := by decide +kernel
theorem dd_X11_letter_1 : decode Y_X11_letter.2.1 1 = .ok (.iload_n 1, 1) := by decide +kernel
theorem dd_X11_letter_2 : decode Y_X11_letter.2.1 2 = .ok (.invokevirtual 169, 3) := by decide +kernel
theorem dd_X11_letter_5 : decode Y_X11_letter.2.1 5 = .ok (.iload_n 2, 1) := by decide +kernel
theorem dd_X11_letter_6 : decode Y_X11_letter.2.1 6 = .ok (.aload_n 0, 1) := by decide +kernel
theorem dd_X11_letter_7 : decode Y_X11_letter.2.1 7 = .ok (.getfield 19, 3) := by decide +kernel
theorem dd_X11_letter_10 : decode Y_X11_letter.2.1 10 = .ok (.getfield 172, 3) := by decide +kernel
theorem dd_X11_letter_13 : decode Y_X11_letter.2.1 13 = .ok (.getfield 176, 3) := by decide +kernel
theorem dd_X11_letter_16 : decode Y_X11_letter.2.1 16 = .ok (.iload_n 1, 1) := by decide +kernel
theorem dd_X11_letter_17 : decode Y_X11_letter.2.1 17 = .ok (.iaload, 1) := by decide +kernel
theorem dd_X11_letter_18 : decode Y_X11_letter.2.1 18 = .ok (.invokestatic 195, 3) := by decide +kernel
theorem dd_X11_letter_21 : decode Y_X11_letter.2.1 21 = .ok (.aload_n 0, 1) := by decide +kernel
theorem dd_X11_letter_22 : decode Y_X11_letter.2.1 22 = .ok (.getfield 19, 3) := by decide +kernel
theorem dd_X11_letter_25 : decode Y_X11_letter.2.1 25 = .ok (.getfield 172, 3) := by decide +kernel
theorem dd_X11_letter_28 : decode Y_X11_letter.2.1 28 = .ok (.iload_n 1, 1) := by decide +kernel
theorem dd_X11_letter_29 : decode Y_X11_letter.2.1 29 = .ok (.iload_n 2, 1) := by decide +kernel
theorem dd_X11_letter_30 : decode Y_X11_letter.2.1 30 = .ok (.invokevirtual 199, 3) := by decide +kernel
theorem dd_X11_letter_33 : decode Y_X11_letter.2.1 33 = .ok (.ireturn, 1) := by decide +kernel
def F_X11_letter (t : Nat) (a1 : Int32) (a2 : Int32) (M : zM) : zO := zbV (F_X11_needName t a1 M) (fun M1 => zck (zin a1 8) (zbV (F_X11_needBelow a2 (M1 (zgr (zgr (zgr t 1) 4) 1) (zix a1)) M1) (fun M2 => zbI (F_X9_sign (zgr (zgr t 1) 4) a1 a2 M2) (fun r1 M3 => zI r1 M3))))
set_option maxHeartbeats 1000000 in
set_option maxRecDepth 20000 in
theorem ct_X11_letter (l : Launch) (hl : l.stackTraces = false) (G : zG) (t : Nat) (ht : zsh t = 11) (a1 : Int32) (a2 : Int32) (M : zM) : zMt l G Y_X11_letter 2 [.ref (G.2.1 + t), .int a1, .int a2] M (F_X11_letter t a1 a2 M) := by
  refine zMt_of (by decide +kernel) (Nat.le_of_ble_eq_true rfl) ?_
  show zEv l G Y_X11_letter 2 0 0 [(0, .ref (G.2.1 + t)), (1, .int a1), (2, .int a2)] [] M (zbV (F_X11_needName t a1 M) (fun M1 => zck (zin a1 8) (zbV (F_X11_needBelow a2 (M1 (zgr (zgr (zgr t 1) 4) 1) (zix a1)) M1) (fun M2 => zbI (F_X9_sign (zgr (zgr t 1) 4) a1 a2 M2) (fun r1 M3 => zI r1 M3)))))
  refine ev_aload_n dd_X11_letter_0 0 rfl ?_
  refine ev_iload_n dd_X11_letter_1 1 rfl ?_
  refine ev_callVV (As := [.int a1]) cl_RX11_169 (ct_X11_needName l hl G t ht a1 M) dd_X11_letter_2 ht (by decide) (Nat.le_of_ble_eq_true rfl) (Nat.le_of_ble_eq_true rfl) rfl rfl (fun M1 => ?_)
  refine ev_iload_n dd_X11_letter_5 2 rfl ?_
  refine ev_aload_n dd_X11_letter_6 0 rfl ?_
  refine ev_getR gf_RX11_19 dd_X11_letter_7 ht (by decide) ?_
  refine ev_getR gf_RX11_172 dd_X11_letter_10 (zg_11_1 ht) (by decide) ?_
  refine ev_getR gf_RX11_176 dd_X11_letter_13 (zg_6_4 (zg_11_1 ht)) (by decide) ?_
  refine ev_iload_n dd_X11_letter_16 1 rfl ?_
  refine ev_iald dd_X11_letter_17 ((zg_9_1 (zg_6_4 (zg_11_1 ht))).1) ((zg_9_1 (zg_6_4 (zg_11_1 ht))).2) ?_
  refine ev_callSV (As := [.int a2, .int (M1 (zgr (zgr (zgr t 1) 4) 1) (zix a1))]) cl_RX11_195 (ct_X11_needBelow l hl G a2 (M1 (zgr (zgr (zgr t 1) 4) 1) (zix a1)) M1) dd_X11_letter_18 (by decide) (Nat.le_of_ble_eq_true rfl) (Nat.le_of_ble_eq_true rfl) rfl rfl (fun M2 => ?_)
  refine ev_aload_n dd_X11_letter_21 0 rfl ?_
  refine ev_lv (lv' := [(1, .int a1), (2, .int a2)]) [1, 2] rfl ?_
  refine ev_getR gf_RX11_19 dd_X11_letter_22 ht (by decide) ?_
  refine ev_getR gf_RX11_172 dd_X11_letter_25 (zg_11_1 ht) (by decide) ?_
  refine ev_iload_n dd_X11_letter_28 0 rfl ?_
  refine ev_lv (lv' := [(2, .int a2)]) [1] rfl ?_
  refine ev_iload_n dd_X11_letter_29 0 rfl ?_
  refine ev_lv (lv' := []) [] rfl ?_
  refine ev_callVI (As := [.int a1, .int a2]) cl_RX11_199 (ct_X9_sign l hl G (zgr (zgr t 1) 4) (zg_6_4 (zg_11_1 ht)) a1 a2 M2) dd_X11_letter_30 (zg_6_4 (zg_11_1 ht)) (by decide) (Nat.le_of_ble_eq_true rfl) (Nat.le_of_ble_eq_true rfl) rfl rfl (fun r1 M3 => ?_)
  exact ev_iret dd_X11_letter_33 rfl (Nat.le_of_ble_eq_true rfl) rfl
/-! X11_lies -/
theorem dd_X11_lies_0 : decode Y_X11_lies.2.1 0 = .ok (.aload_n 0, 1) := by decide +kernel
theorem dd_X11_lies_1 : decode Y_X11_lies.2.1 1 = .ok (.iload_n 1, 1) := by decide +kernel
theorem dd_X11_lies_2 : decode Y_X11_lies.2.1 2 = .ok (.iload_n 2, 1) := by decide +kernel
theorem dd_X11_lies_3 : decode Y_X11_lies.2.1 3 = .ok (.invokevirtual 209, 3) := by decide +kernel
theorem dd_X11_lies_6 : decode Y_X11_lies.2.1 6 = .ok (.bipush 9, 2) := by decide +kernel
theorem dd_X11_lies_8 : decode Y_X11_lies.2.1 8 = .ok (.istore_n 3, 1) := by decide +kernel
theorem dd_X11_lies_9 : decode Y_X11_lies.2.1 9 = .ok (.iload_n 3, 1) := by decide +kernel
theorem dd_X11_lies_10 : decode Y_X11_lies.2.1 10 = .ok (.ifCond .lt 24, 3) := by decide +kernel
theorem dd_X11_lies_13 : decode Y_X11_lies.2.1 13 = .ok (.aload_n 0, 1) := by decide +kernel
theorem dd_X11_lies_14 : decode Y_X11_lies.2.1 14 = .ok (.getfield 40, 3) := by decide +kernel
theorem dd_X11_lies_17 : decode Y_X11_lies.2.1 17 = .ok (.iload_n 1, 1) := by decide +kernel
theorem dd_X11_lies_18 : decode Y_X11_lies.2.1 18 = .ok (.iload_n 2, 1) := by decide +kernel
theorem dd_X11_lies_19 : decode Y_X11_lies.2.1 19 = .ok (.iload_n 3, 1) := by decide +kernel
theorem dd_X11_lies_20 : decode Y_X11_lies.2.1 20 = .ok (.invokevirtual 332, 3) := by decide +kernel
theorem dd_X11_lies_23 : decode Y_X11_lies.2.1 23 = .ok (.ifCond .eq 5, 3) := by decide +kernel
theorem dd_X11_lies_26 : decode Y_X11_lies.2.1 26 = .ok (.iload_n 3, 1) := by decide +kernel
theorem dd_X11_lies_27 : decode Y_X11_lies.2.1 27 = .ok (.ireturn, 1) := by decide +kernel
theorem dd_X11_lies_28 : decode Y_X11_lies.2.1 28 = .ok (.iinc 3 (-1), 3) := by decide +kernel
theorem dd_X11_lies_31 : decode Y_X11_lies.2.1 31 = .ok (.goto (-22), 3) := by decide +kernel
theorem dd_X11_lies_34 : decode Y_X11_lies.2.1 34 = .ok (.iconst (-1), 1) := by decide +kernel
theorem dd_X11_lies_35 : decode Y_X11_lies.2.1 35 = .ok (.ireturn, 1) := by decide +kernel
def F_X11_lies_L9 (x0 : Nat) (x1 : Int32) (x2 : Int32) (K34 : zM → zO) : Nat → Int32 → zM → zO
  | 0, _, _ => none
  | n + 1, x3, M => zit (x3 < 0) (K34 M) (zbI (F_X10_lieOnEachOther (zgr x0 4) x1 x2 x3 M) (fun r1 M2 => zit (r1 = 0) (F_X11_lies_L9 x0 x1 x2 K34 n (x3 + (-1)) M2) (zI x3 M2)))
def F_X11_lies (t : Nat) (a1 : Int32) (a2 : Int32) (M : zM) : zO := zbV (F_X11_needTwo t a1 a2 M) (fun M1 => F_X11_lies_L9 t a1 a2 (fun  (M3 : zM) => zI (-1) M3) zN 9 M1)
set_option maxHeartbeats 1000000 in
set_option maxRecDepth 20000 in
theorem ct_X11_lies_L9 (l : Launch) (hl : l.stackTraces = false) (G : zG) (x0 : Nat) (hx0 : zsh x0 = 11) (x1 : Int32) (x2 : Int32) (K34 : zM → zO) (hK34 : ∀  (M : zM), zEv l G Y_X11_lies 9 3 34 [] [] M (K34 M)) : ∀ (n : Nat) (x3 : Int32) (M : zM), zEv l G Y_X11_lies 9 3 9 [(0, .ref (G.2.1 + x0)), (1, .int x1), (2, .int x2), (3, .int x3)] [] M (F_X11_lies_L9 x0 x1 x2 K34 n x3 M) := by
  intro n
  induction n with
  | zero => intro x3 M; exact ev_none
  | succ n ih =>
    intro x3 M
    show zEv l G Y_X11_lies 9 3 9 [(0, .ref (G.2.1 + x0)), (1, .int x1), (2, .int x2), (3, .int x3)] [] M (zit (x3 < 0) (K34 M) (zbI (F_X10_lieOnEachOther (zgr x0 4) x1 x2 x3 M) (fun r1 M2 => zit (r1 = 0) (F_X11_lies_L9 x0 x1 x2 K34 n (x3 + (-1)) M2) (zI x3 M2))))
    refine ev_iload_n dd_X11_lies_9 3 rfl ?_
    refine ev_if_lt 34 dd_X11_lies_10 (by decide) ?_ ?_
    · refine ev_lv (lv' := []) [] rfl ?_
      exact hK34 _
    · refine ev_aload_n dd_X11_lies_13 0 rfl ?_
      refine ev_getR gf_RX11_40 dd_X11_lies_14 hx0 (by decide) ?_
      refine ev_iload_n dd_X11_lies_17 1 rfl ?_
      refine ev_iload_n dd_X11_lies_18 2 rfl ?_
      refine ev_iload_n dd_X11_lies_19 3 rfl ?_
      refine ev_callVI (As := [.int x1, .int x2, .int x3]) cl_RX11_332 (ct_X10_lieOnEachOther l hl G (zgr x0 4) (zg_11_4 hx0) x1 x2 x3 M) dd_X11_lies_20 (zg_11_4 hx0) (by decide) (Nat.le_of_ble_eq_true rfl) (Nat.le_of_ble_eq_true rfl) rfl rfl (fun r1 M2 => ?_)
      refine ev_if_eq 28 dd_X11_lies_23 (by decide) ?_ ?_
      · refine ev_iinc (j := 3) (v := (-1)) (lv' := [(0, .ref (G.2.1 + x0)), (1, .int x1), (2, .int x2), (3, .int (x3 + (-1)))]) [1, 2, 3, 0] dd_X11_lies_28 rfl (by decide) (by decide) rfl ?_
        refine ev_goto 9 dd_X11_lies_31 (by decide) ?_
        exact ih _ _
      · refine ev_lv (lv' := [(3, .int x3)]) [3] rfl ?_
        refine ev_iload_n dd_X11_lies_26 0 rfl ?_
        refine ev_lv (lv' := []) [] rfl ?_
        exact ev_iret dd_X11_lies_27 rfl (Nat.le_of_ble_eq_true rfl) rfl
set_option maxHeartbeats 1000000 in
set_option maxRecDepth 20000 in
theorem ct_X11_lies (l : Launch) (hl : l.stackTraces = false) (G : zG) (t : Nat) (ht : zsh t = 11) (a1 : Int32) (a2 : Int32) (M : zM) : zMt l G Y_X11_lies 9 [.ref (G.2.1 + t), .int a1, .int a2] M (F_X11_lies t a1 a2 M) := by
  refine zMt_of (by decide +kernel) (Nat.le_of_ble_eq_true rfl) ?_
  show zEv l G Y_X11_lies 9 0 0 [(0, .ref (G.2.1 + t)), (1, .int a1), (2, .int a2)] [] M (zbV (F_X11_needTwo t a1 a2 M) (fun M1 => F_X11_lies_L9 t a1 a2 (fun  (M3 : zM) => zI (-1) M3) zN 9 M1))
  refine ev_aload_n dd_X11_lies_0 0 rfl ?_
  refine ev_iload_n dd_X11_lies_1 1 rfl ?_
  refine ev_iload_n dd_X11_lies_2 2 rfl ?_
  refine ev_callVV (As := [.int a1, .int a2]) cl_RX11_209 (ct_X11_needTwo l hl G t ht a1 a2 M) dd_X11_lies_3 ht (by decide) (Nat.le_of_ble_eq_true rfl) (Nat.le_of_ble_eq_true rfl) rfl rfl (fun M1 => ?_)
  refine ev_bipush (v := 9) dd_X11_lies_6 (by decide) ?_
  refine ev_istore_n (i := 3) (lv' := [(0, .ref (G.2.1 + t)), (1, .int a1), (2, .int a2), (3, .int 9)]) [1, 2, 3, 0] dd_X11_lies_8 rfl (by decide) rfl ?_
  refine ct_X11_lies_L9 l hl G t ht a1 a2 _ (fun M3 => ?_) zN _ _
  refine ev_iconst (v := (-1)) dd_X11_lies_34 (by decide) ?_
  exact ev_iret dd_X11_lies_35 rfl (Nat.le_of_ble_eq_true rfl) rfl
/-! X2_renew -/
theorem dd_X2_renew_0 : decode Y_X2_renew.2.1 0 = .ok (.aload_n 0, 1) := by decide +kernel
theorem dd_X2_renew_1 : decode Y_X2_renew.2.1 1 = .ok (.getfield 15, 3) := by decide +kernel
theorem dd_X2_renew_4 : decode Y_X2_renew.2.1 4 = .ok (.iload_n 1, 1) := by decide +kernel
theorem dd_X2_renew_5 : decode Y_X2_renew.2.1 5 = .ok (.if_icmp .eq 16, 3) := by decide +kernel
theorem dd_X2_renew_8 : decode Y_X2_renew.2.1 8 = .ok (.aload_n 0, 1) := by decide +kernel
theorem dd_X2_renew_9 : decode Y_X2_renew.2.1 9 = .ok (.iload_n 1, 1) := by decide +kernel
theorem dd_X2_renew_10 : decode Y_X2_renew.2.1 10 = .ok (.putfield 15, 3) := by decide +kernel
theorem dd_X2_renew_13 : decode Y_X2_renew.2.1 13 = .ok (.aload_n 0, 1) := by decide +kernel
theorem dd_X2_renew_14 : decode Y_X2_renew.2.1 14 = .ok (.getfield 9, 3) := by decide +kernel
theorem dd_X2_renew_17 : decode Y_X2_renew.2.1 17 = .ok (.iconst 0, 1) := by decide +kernel
theorem dd_X2_renew_18 : decode Y_X2_renew.2.1 18 = .ok (.invokestatic 23, 3) := by decide +kernel
theorem dd_X2_renew_21 : decode Y_X2_renew.2.1 21 = .ok (.return_, 1) := by decide +kernel
def F_X2_renew (t : Nat) (a1 : Int32) (M : zM) : zO := zjo (fun  (M3 : zM) => zV M3) (fun (k1 : zM → zO) => zit ((M t 2) = a1) (k1 M) (zst (zup M t 2 a1) (fun M1 => zbV (F_J7_fill_031fb (zgr t 1) 0 M1) (fun M2 => k1 M2))))
set_option maxHeartbeats 1000000 in
set_option maxRecDepth 20000 in
theorem ct_X2_renew (l : Launch) (hl : l.stackTraces = false) (G : zG) (t : Nat) (ht : zsh t = 2) (a1 : Int32) (M : zM) : zMt l G Y_X2_renew 2 [.ref (G.2.1 + t), .int a1] M (F_X2_renew t a1 M) := by
  refine zMt_of (by decide +kernel) (Nat.le_of_ble_eq_true rfl) ?_
  show zEv l G Y_X2_renew 2 0 0 [(0, .ref (G.2.1 + t)), (1, .int a1)] [] M (zjo (fun  (M3 : zM) => zV M3) (fun (k1 : zM → zO) => zit ((M t 2) = a1) (k1 M) (zst (zup M t 2 a1) (fun M1 => zbV (F_J7_fill_031fb (zgr t 1) 0 M1) (fun M2 => k1 M2)))))
  refine ev_aload_n dd_X2_renew_0 0 rfl ?_
  refine ev_getI gf_RX2_15 dd_X2_renew_1 ht (by decide) ?_
  refine ev_iload_n dd_X2_renew_4 1 rfl ?_
  refine ev_jo (fun (k1 : zM → zO) => ∀  (M3 : zM), zEv l G Y_X2_renew 2 0 21 [] [] M3 (k1 M3)) ?_ (fun k1 hk1 => ?_)
  · intro M3
    exact ev_vret dd_X2_renew_21 rfl (Nat.le_of_ble_eq_true rfl) rfl
  · refine ev_icmp_eq 21 dd_X2_renew_5 (by decide) ?_ ?_
    · refine ev_lv (lv' := []) [] rfl ?_
      exact hk1 _
    · refine ev_aload_n dd_X2_renew_8 0 rfl ?_
      refine ev_iload_n dd_X2_renew_9 1 rfl ?_
      refine ev_lv (lv' := [(0, .ref (G.2.1 + t))]) [0] rfl ?_
      refine ev_putI gw_RX2_15 dd_X2_renew_10 ht (by decide) ?_
      refine ev_st (fun M1 => ?_)
      refine ev_aload_n dd_X2_renew_13 0 rfl ?_
      refine ev_lv (lv' := []) [] rfl ?_
      refine ev_getR gf_RX2_9 dd_X2_renew_14 ht (by decide) ?_
      refine ev_iconst (v := 0) dd_X2_renew_17 (by decide) ?_
      refine ev_callSV (As := [.ref (G.2.1 + (zgr t 1)), .int 0]) cl_RX2_23 (ct_J7_fill_031fb l hl G (zgr t 1) ((zg_2_1 ht).1) 0 M1) dd_X2_renew_18 (by decide) (Nat.le_of_ble_eq_true rfl) (Nat.le_of_ble_eq_true rfl) rfl rfl (fun M2 => ?_)
      exact hk1 _
/-! X2_allow -/
theorem dd_X2_allow_0 : decode Y_X2_allow.2.1 0 = .ok (.iload_n 1, 1) := by decide +kernel
theorem dd_X2_allow_1 : decode Y_X2_allow.2.1 1 = .ok (.bipush 8, 2) := by decide +kernel
theorem dd_X2_allow_3 : decode Y_X2_allow.2.1 3 = .ok (.imul, 1) := by decide +kernel
theorem dd_X2_allow_4 : decode Y_X2_allow.2.1 4 = .ok (.iload_n 2, 1) := by decide +kernel
theorem dd_X2_allow_5 : decode Y_X2_allow.2.1 5 = .ok (.iadd, 1) := by decide +kernel
theorem dd_X2_allow_6 : decode Y_X2_allow.2.1 6 = .ok (.bipush 8, 2) := by decide +kernel
theorem dd_X2_allow_8 : decode Y_X2_allow.2.1 8 = .ok (.imul, 1) := by decide +kernel
theorem dd_X2_allow_9 : decode Y_X2_allow.2.1 9 = .ok (.iload_n 3, 1) := by decide +kernel
theorem dd_X2_allow_10 : decode Y_X2_allow.2.1 10 = .ok (.iadd, 1) := by decide +kernel
theorem dd_X2_allow_11 : decode Y_X2_allow.2.1 11 = .ok (.bipush 8, 2) := by decide +kernel
theorem dd_X2_allow_13 : decode Y_X2_allow.2.1 13 = .ok (.imul, 1) := by decide +kernel
theorem dd_X2_allow_14 : decode Y_X2_allow.2.1 14 = .ok (.iload 4, 2) := by decide +kernel
theorem dd_X2_allow_16 : decode Y_X2_allow.2.1 16 = .ok (.iadd, 1) := by decide +kernel
theorem dd_X2_allow_17 : decode Y_X2_allow.2.1 17 = .ok (.istore 5, 2) := by decide +kernel
theorem dd_X2_allow_19 : decode Y_X2_allow.2.1 19 = .ok (.aload_n 0, 1) := by decide +kernel
theorem dd_X2_allow_20 : decode Y_X2_allow.2.1 20 = .ok (.getfield 9, 3) := by decide +kernel
theorem dd_X2_allow_23 : decode Y_X2_allow.2.1 23 = .ok (.iload 5, 2) := by decide +kernel
theorem dd_X2_allow_25 : decode Y_X2_allow.2.1 25 = .ok (.baload, 1) := by decide +kernel
theorem dd_X2_allow_26 : decode Y_X2_allow.2.1 26 = .ok (.ifCond .ne 31, 3) := by decide +kernel
theorem dd_X2_allow_29 : decode Y_X2_allow.2.1 29 = .ok (.aload_n 0, 1) := by decide +kernel
theorem dd_X2_allow_30 : decode Y_X2_allow.2.1 30 = .ok (.getfield 9, 3) := by decide +kernel
theorem dd_X2_allow_33 : decode Y_X2_allow.2.1 33 = .ok (.iload 5, 2) := by decide +kernel
theorem dd_X2_allow_35 : decode Y_X2_allow.2.1 35 = .ok (.aload_n 0, 1) := by decide +kernel
theorem dd_X2_allow_36 : decode Y_X2_allow.2.1 36 = .ok (.getfield 19, 3) := by decide +kernel
theorem dd_X2_allow_39 : decode Y_X2_allow.2.1 39 = .ok (.iload_n 1, 1) := by decide +kernel
theorem dd_X2_allow_40 : decode Y_X2_allow.2.1 40 = .ok (.iload_n 2, 1) := by decide +kernel
theorem dd_X2_allow_41 : decode Y_X2_allow.2.1 41 = .ok (.iload_n 3, 1) := by decide +kernel
theorem dd_X2_allow_42 : decode Y_X2_allow.2.1 42 = .ok (.iload 4, 2) := by decide +kernel
theorem dd_X2_allow_44 : decode Y_X2_allow.2.1 44 = .ok (.invokevirtual 29, 3) := by decide +kernel
theorem dd_X2_allow_47 : decode Y_X2_allow.2.1 47 = .ok (.ifCond .eq 7, 3) := by decide +kernel
theorem dd_X2_allow_50 : decode Y_X2_allow.2.1 50 = .ok (.iconst 1, 1) := by decide +kernel
theorem dd_X2_allow_51 : decode Y_X2_allow.2.1 51 = .ok (.goto 4, 3) := by decide +kernel
theorem dd_X2_allow_54 : decode Y_X2_allow.2.1 54 = .ok (.iconst 2, 1) := by decide +kernel
theorem dd_X2_allow_55 : decode Y_X2_allow.2.1 55 = .ok (.i2b, 1) := by decide +kernel
theorem dd_X2_allow_56 : decode Y_X2_allow.2.1 56 = .ok (.bastore, 1) := by decide +kernel
theorem dd_X2_allow_57 : decode Y_X2_allow.2.1 57 = .ok (.aload_n 0, 1) := by decide +kernel
theorem dd_X2_allow_58 : decode Y_X2_allow.2.1 58 = .ok (.getfield 9, 3) := by decide +kernel
theorem dd_X2_allow_61 : decode Y_X2_allow.2.1 61 = .ok (.iload 5, 2) := by decide +kernel
theorem dd_X2_allow_63 : decode Y_X2_allow.2.1 63 = .ok (.baload, 1) := by decide +kernel
theorem dd_X2_allow_64 : decode Y_X2_allow.2.1 64 = .ok (.iconst 1, 1) := by decide +kernel
theorem dd_X2_allow_65 : decode Y_X2_allow.2.1 65 = .ok (.if_icmp .ne 7, 3) := by decide +kernel
theorem dd_X2_allow_68 : decode Y_X2_allow.2.1 68 = .ok (.iconst 1, 1) := by decide +kernel
theorem dd_X2_allow_69 : decode Y_X2_allow.2.1 69 = .ok (.goto 4, 3) := by decide +kernel
theorem dd_X2_allow_72 : decode Y_X2_allow.2.1 72 = .ok (.iconst 0, 1) := by decide +kernel
theorem dd_X2_allow_73 : decode Y_X2_allow.2.1 73 = .ok (.ireturn, 1) := by decide +kernel
def F_X2_allow (t : Nat) (a1 : Int32) (a2 : Int32) (a3 : Int32) (a4 : Int32) (M : zM) : zO := zlt ((((((a1 * 8) + a2) * 8) + a3) * 8) + a4) (fun v1 => zck (zin v1 4096) (zjo (fun  (M4 : zM) => zck (zin v1 4096) (zjo (fun (w2 : Int32) (M5 : zM) => zck (zbo w2) (zI w2 M5)) (fun (k3 : Int32 → zM → zO) => zit ((M4 (zgr t 1) (zix v1)) = 1) (k3 1 M4) (k3 0 M4)))) (fun (k1 : zM → zO) => zit ((M (zgr t 1) (zix v1)) = 0) (zbI (F_X10_letsWith (zgr t 0) a1 a2 a3 a4 M) (fun r1 M1 => zjo (fun (w1 : Int32) (M2 : zM) => zck (zin v1 4096) (zst (zup M2 (zgr t 1) (zix v1) w1.toInt8.toInt32.toInt8.toInt32) (fun M3 => k1 M3))) (fun (k2 : Int32 → zM → zO) => zit (r1 = 0) (k2 2 M1) (k2 1 M1)))) (k1 M))))
set_option maxHeartbeats 1000000 in
set_option maxRecDepth 20000 in
theorem ct_X2_allow (l : Launch) (hl : l.stackTraces = false) (G : zG) (t : Nat) (ht : zsh t = 2) (a1 : Int32) (a2 : Int32) (a3 : Int32) (a4 : Int32) (M : zM) : zMt l G Y_X2_allow 11 [.ref (G.2.1 + t), .int a1, .int a2, .int a3, .int a4] M (F_X2_allow t a1 a2 a3 a4 M) := by
  refine zMt_of (by decide +kernel) (Nat.le_of_ble_eq_true rfl) ?_
  show zEv l G Y_X2_allow 11 0 0 [(0, .ref (G.2.1 + t)), (1, .int a1), (2, .int a2), (3, .int a3), (4, .int a4)] [] M (zlt ((((((a1 * 8) + a2) * 8) + a3) * 8) + a4) (fun v1 => zck (zin v1 4096) (zjo (fun  (M4 : zM) => zck (zin v1 4096) (zjo (fun (w2 : Int32) (M5 : zM) => zck (zbo w2) (zI w2 M5)) (fun (k3 : Int32 → zM → zO) => zit ((M4 (zgr t 1) (zix v1)) = 1) (k3 1 M4) (k3 0 M4)))) (fun (k1 : zM → zO) => zit ((M (zgr t 1) (zix v1)) = 0) (zbI (F_X10_letsWith (zgr t 0) a1 a2 a3 a4 M) (fun r1 M1 => zjo (fun (w1 : Int32) (M2 : zM) => zck (zin v1 4096) (zst (zup M2 (zgr t 1) (zix v1) w1.toInt8.toInt32.toInt8.toInt32) (fun M3 => k1 M3))) (fun (k2 : Int32 → zM → zO) => zit (r1 = 0) (k2 2 M1) (k2 1 M1)))) (k1 M)))))
  refine ev_iload_n dd_X2_allow_0 1 rfl ?_
  refine ev_bipush (v := 8) dd_X2_allow_1 (by decide) ?_
  refine ev_imul dd_X2_allow_3 ?_
  refine ev_iload_n dd_X2_allow_4 2 rfl ?_
  refine ev_iadd dd_X2_allow_5 ?_
  refine ev_bipush (v := 8) dd_X2_allow_6 (by decide) ?_
  refine ev_imul dd_X2_allow_8 ?_
  refine ev_iload_n dd_X2_allow_9 3 rfl ?_
  refine ev_iadd dd_X2_allow_10 ?_
  refine ev_bipush (v := 8) dd_X2_allow_11 (by decide) ?_
  refine ev_imul dd_X2_allow_13 ?_
  refine ev_iload dd_X2_allow_14 4 rfl ?_
  refine ev_iadd dd_X2_allow_16 ?_
  refine ev_topi (fun v1 => ?_)
  refine ev_istore (i := 5) (lv' := [(0, .ref (G.2.1 + t)), (1, .int a1), (2, .int a2), (3, .int a3), (4, .int a4), (5, .int v1)]) [1, 2, 3, 4, 5, 0] dd_X2_allow_17 (by decide) rfl ?_
  refine ev_aload_n dd_X2_allow_19 0 rfl ?_
  refine ev_getR gf_RX2_9 dd_X2_allow_20 ht (by decide) ?_
  refine ev_iload dd_X2_allow_23 5 rfl ?_
  refine ev_bald dd_X2_allow_25 ((zg_2_1 ht).1) ((zg_2_1 ht).2) ?_
  refine ev_jo (fun (k1 : zM → zO) => ∀  (M4 : zM), zEv l G Y_X2_allow 11 0 57 [(0, .ref (G.2.1 + t)), (5, .int v1)] [] M4 (k1 M4)) ?_ (fun k1 hk1 => ?_)
  · intro M4
    refine ev_aload_n dd_X2_allow_57 0 rfl ?_
    refine ev_lv (lv' := [(5, .int v1)]) [1] rfl ?_
    refine ev_getR gf_RX2_9 dd_X2_allow_58 ht (by decide) ?_
    refine ev_iload dd_X2_allow_61 0 rfl ?_
    refine ev_lv (lv' := []) [] rfl ?_
    refine ev_bald dd_X2_allow_63 ((zg_2_1 ht).1) ((zg_2_1 ht).2) ?_
    refine ev_iconst (v := 1) dd_X2_allow_64 (by decide) ?_
    refine ev_jo (fun (k3 : Int32 → zM → zO) => ∀ (w2 : Int32) (M5 : zM), zEv l G Y_X2_allow 11 0 73 [] [.int w2] M5 (k3 w2 M5)) ?_ (fun k3 hk3 => ?_)
    · intro w2 M5
      exact ev_zret dd_X2_allow_73 rfl (Nat.le_of_ble_eq_true rfl) rfl
    · refine ev_icmp_ne 72 dd_X2_allow_65 (by decide) ?_ ?_
      · refine ev_iconst (v := 0) dd_X2_allow_72 (by decide) ?_
        exact hk3 _ _
      · refine ev_iconst (v := 1) dd_X2_allow_68 (by decide) ?_
        refine ev_goto 73 dd_X2_allow_69 (by decide) ?_
        exact hk3 _ _
  · refine ev_if_ne 57 dd_X2_allow_26 (by decide) ?_ ?_
    · refine ev_lv (lv' := [(0, .ref (G.2.1 + t)), (5, .int v1)]) [0, 5] rfl ?_
      exact hk1 _
    · refine ev_aload_n dd_X2_allow_29 0 rfl ?_
      refine ev_getR gf_RX2_9 dd_X2_allow_30 ht (by decide) ?_
      refine ev_iload dd_X2_allow_33 5 rfl ?_
      refine ev_aload_n dd_X2_allow_35 0 rfl ?_
      refine ev_getR gf_RX2_19 dd_X2_allow_36 ht (by decide) ?_
      refine ev_iload_n dd_X2_allow_39 1 rfl ?_
      refine ev_lv (lv' := [(0, .ref (G.2.1 + t)), (2, .int a2), (3, .int a3), (4, .int a4), (5, .int v1)]) [0, 2, 3, 4, 5] rfl ?_
      refine ev_iload_n dd_X2_allow_40 1 rfl ?_
      refine ev_lv (lv' := [(0, .ref (G.2.1 + t)), (3, .int a3), (4, .int a4), (5, .int v1)]) [0, 2, 3, 4] rfl ?_
      refine ev_iload_n dd_X2_allow_41 1 rfl ?_
      refine ev_lv (lv' := [(0, .ref (G.2.1 + t)), (4, .int a4), (5, .int v1)]) [0, 2, 3] rfl ?_
      refine ev_iload dd_X2_allow_42 1 rfl ?_
      refine ev_lv (lv' := [(0, .ref (G.2.1 + t)), (5, .int v1)]) [0, 2] rfl ?_
      refine ev_callVI (As := [.int a1, .int a2, .int a3, .int a4]) cl_RX2_29 (ct_X10_letsWith l hl G (zgr t 0) (zg_2_0 ht) a1 a2 a3 a4 M) dd_X2_allow_44 (zg_2_0 ht) (by decide) (Nat.le_of_ble_eq_true rfl) (Nat.le_of_ble_eq_true rfl) rfl rfl (fun r1 M1 => ?_)
      refine ev_jo (fun (k2 : Int32 → zM → zO) => ∀ (w1 : Int32) (M2 : zM), zEv l G Y_X2_allow 11 0 55 [(0, .ref (G.2.1 + t)), (5, .int v1)] [.int w1, .int v1, .ref (G.2.1 + (zgr t 1))] M2 (k2 w1 M2)) ?_ (fun k2 hk2 => ?_)
      · intro w1 M2
        refine ev_i2b dd_X2_allow_55 ?_
        refine ev_bast dd_X2_allow_56 ((zg_2_1 ht).1) ((zg_2_1 ht).2) ?_
        refine ev_st (fun M3 => ?_)
        exact hk1 _
      · refine ev_if_eq 54 dd_X2_allow_47 (by decide) ?_ ?_
        · refine ev_iconst (v := 2) dd_X2_allow_54 (by decide) ?_
          exact hk2 _ _
        · refine ev_iconst (v := 1) dd_X2_allow_50 (by decide) ?_
          refine ev_goto 55 dd_X2_allow_51 (by decide) ?_
          exact hk2 _ _
/-! X5_exchange -/
theorem dd_X5_exchange_0 : decode Y_X5_exchange.2.1 0 = .ok (.aload_n 0, 1) := by decide +kernel
theorem dd_X5_exchange_1 : decode Y_X5_exchange.2.1 1 = .ok (.getfield 9, 3) := by decide +kernel
theorem dd_X5_exchange_4 : decode Y_X5_exchange.2.1 4 = .ok (.iload_n 1, 1) := by decide +kernel
theorem dd_X5_exchange_5 : decode Y_X5_exchange.2.1 5 = .ok (.iaload, 1) := by decide +kernel
theorem dd_X5_exchange_6 : decode Y_X5_exchange.2.1 6 = .ok (.istore_n 3, 1) := by decide +kernel
theorem dd_X5_exchange_7 : decode Y_X5_exchange.2.1 7 = .ok (.aload_n 0, 1) := by decide +kernel
theorem dd_X5_exchange_8 : decode Y_X5_exchange.2.1 8 = .ok (.getfield 9, 3) := by decide +kernel
theorem dd_X5_exchange_11 : decode Y_X5_exchange.2.1 11 = .ok (.iload_n 1, 1) := by decide +kernel
theorem dd_X5_exchange_12 : decode Y_X5_exchange.2.1 12 = .ok (.aload_n 0, 1) := by decide +kernel
theorem dd_X5_exchange_13 : decode Y_X5_exchange.2.1 13 = .ok (.getfield 9, 3) := by decide +kernel
theorem dd_X5_exchange_16 : decode Y_X5_exchange.2.1 16 = .ok (.iload_n 2, 1) := by decide +kernel
theorem dd_X5_exchange_17 : decode Y_X5_exchange.2.1 17 = .ok (.iaload, 1) := by decide +kernel
theorem dd_X5_exchange_18 : decode Y_X5_exchange.2.1 18 = .ok (.iastore, 1) := by decide +kernel
theorem dd_X5_exchange_19 : decode Y_X5_exchange.2.1 19 = .ok (.aload_n 0, 1) := by decide +kernel
theorem dd_X5_exchange_20 : decode Y_X5_exchange.2.1 20 = .ok (.getfield 9, 3) := by decide +kernel
theorem dd_X5_exchange_23 : decode Y_X5_exchange.2.1 23 = .ok (.iload_n 2, 1) := by decide +kernel
theorem dd_X5_exchange_24 : decode Y_X5_exchange.2.1 24 = .ok (.iload_n 3, 1) := by decide +kernel
theorem dd_X5_exchange_25 : decode Y_X5_exchange.2.1 25 = .ok (.iastore, 1) := by decide +kernel
theorem dd_X5_exchange_26 : decode Y_X5_exchange.2.1 26 = .ok (.return_, 1) := by decide +kernel
def F_X5_exchange (t : Nat) (a1 : Int32) (a2 : Int32) (M : zM) : zO := zck (zin a1 8) (zlt (M (zgr t 3) (zix a1)) (fun v1 => zck (zin a2 8) (zck (zin a1 8) (zst (zup M (zgr t 3) (zix a1) (M (zgr t 3) (zix a2))) (fun M1 => zck (zin a2 8) (zst (zup M1 (zgr t 3) (zix a2) v1) (fun M2 => zV M2)))))))
set_option maxHeartbeats 1000000 in
set_option maxRecDepth 20000 in
theorem ct_X5_exchange (l : Launch) (hl : l.stackTraces = false) (G : zG) (t : Nat) (ht : zsh t = 5) (a1 : Int32) (a2 : Int32) (M : zM) : zMt l G Y_X5_exchange 1 [.ref (G.2.1 + t), .int a1, .int a2] M (F_X5_exchange t a1 a2 M) := by
  refine zMt_of (by decide +kernel) (Nat.le_of_ble_eq_true rfl) ?_
  show zEv l G Y_X5_exchange 1 0 0 [(0, .ref (G.2.1 + t)), (1, .int a1), (2, .int a2)] [] M (zck (zin a1 8) (zlt (M (zgr t 3) (zix a1)) (fun v1 => zck (zin a2 8) (zck (zin a1 8) (zst (zup M (zgr t 3) (zix a1) (M (zgr t 3) (zix a2))) (fun M1 => zck (zin a2 8) (zst (zup M1 (zgr t 3) (zix a2) v1) (fun M2 => zV M2))))))))
  refine ev_aload_n dd_X5_exchange_0 0 rfl ?_
  refine ev_getR gf_RX5_9 dd_X5_exchange_1 ht (by decide) ?_
  refine ev_iload_n dd_X5_exchange_4 1 rfl ?_
  refine ev_iald dd_X5_exchange_5 ((zg_5_3 ht).1) ((zg_5_3 ht).2) ?_
  refine ev_topi (fun v1 => ?_)
  refine ev_istore_n (i := 3) (lv' := [(0, .ref (G.2.1 + t)), (1, .int a1), (2, .int a2), (3, .int v1)]) [1, 2, 3, 0] dd_X5_exchange_6 rfl (by decide) rfl ?_
  refine ev_aload_n dd_X5_exchange_7 0 rfl ?_
  refine ev_getR gf_RX5_9 dd_X5_exchange_8 ht (by decide) ?_
  refine ev_iload_n dd_X5_exchange_11 1 rfl ?_
  refine ev_lv (lv' := [(0, .ref (G.2.1 + t)), (2, .int a2), (3, .int v1)]) [0, 2, 3] rfl ?_
  refine ev_aload_n dd_X5_exchange_12 0 rfl ?_
  refine ev_getR gf_RX5_9 dd_X5_exchange_13 ht (by decide) ?_
  refine ev_iload_n dd_X5_exchange_16 1 rfl ?_
  refine ev_iald dd_X5_exchange_17 ((zg_5_3 ht).1) ((zg_5_3 ht).2) ?_
  refine ev_iast dd_X5_exchange_18 ((zg_5_3 ht).1) ((zg_5_3 ht).2) ?_
  refine ev_st (fun M1 => ?_)
  refine ev_aload_n dd_X5_exchange_19 0 rfl ?_
  refine ev_lv (lv' := [(2, .int a2), (3, .int v1)]) [1, 2] rfl ?_
  refine ev_getR gf_RX5_9 dd_X5_exchange_20 ht (by decide) ?_
  refine ev_iload_n dd_X5_exchange_23 0 rfl ?_
  refine ev_lv (lv' := [(3, .int v1)]) [1] rfl ?_
  refine ev_iload_n dd_X5_exchange_24 0 rfl ?_
  refine ev_lv (lv' := []) [] rfl ?_
  refine ev_iast dd_X5_exchange_25 ((zg_5_3 ht).1) ((zg_5_3 ht).2) ?_
  refine ev_st (fun M2 => ?_)
  exact ev_vret dd_X5_exchange_26 rfl (Nat.le_of_ble_eq_true rfl) rfl
/-! X3_fit -/
theorem dd_X3_fit_0 : decode Y_X3_fit.2.1 0 = .ok (.iconst 0, 1) := by decide +kernel
theorem dd_X3_fit_1 : decode Y_X3_fit.2.1 1 = .ok (.istore_n 2, 1) := by decide +kernel
theorem dd_X3_fit_2 : decode Y_X3_fit.2.1 2 = .ok (.iload_n 2, 1) := by decide +kernel
theorem dd_X3_fit_3 : decode Y_X3_fit.2.1 3 = .ok (.aload_n 0, 1) := by decide +kernel
theorem dd_X3_fit_4 : decode Y_X3_fit.2.1 4 = .ok (.getfield 15, 3) := by decide +kernel
theorem dd_X3_fit_7 : decode Y_X3_fit.2.1 7 = .ok (.if_icmp .ge 28, 3) := by decide +kernel
theorem dd_X3_fit_10 : decode Y_X3_fit.2.1 10 = .ok (.aload_n 1, 1) := by decide +kernel
theorem dd_X3_fit_11 : decode Y_X3_fit.2.1 11 = .ok (.aload_n 0, 1) := by decide +kernel
theorem dd_X3_fit_12 : decode Y_X3_fit.2.1 12 = .ok (.getfield 31, 3) := by decide +kernel
theorem dd_X3_fit_15 : decode Y_X3_fit.2.1 15 = .ok (.iload_n 2, 1) := by decide +kernel
theorem dd_X3_fit_16 : decode Y_X3_fit.2.1 16 = .ok (.iaload, 1) := by decide +kernel
theorem dd_X3_fit_17 : decode Y_X3_fit.2.1 17 = .ok (.iaload, 1) := by decide +kernel
theorem dd_X3_fit_18 : decode Y_X3_fit.2.1 18 = .ok (.aload_n 0, 1) := by decide +kernel
theorem dd_X3_fit_19 : decode Y_X3_fit.2.1 19 = .ok (.getfield 34, 3) := by decide +kernel
theorem dd_X3_fit_22 : decode Y_X3_fit.2.1 22 = .ok (.iload_n 2, 1) := by decide +kernel
theorem dd_X3_fit_23 : decode Y_X3_fit.2.1 23 = .ok (.iaload, 1) := by decide +kernel
theorem dd_X3_fit_24 : decode Y_X3_fit.2.1 24 = .ok (.if_icmp .eq 5, 3) := by decide +kernel
theorem dd_X3_fit_27 : decode Y_X3_fit.2.1 27 = .ok (.iconst 0, 1) := by decide +kernel
theorem dd_X3_fit_28 : decode Y_X3_fit.2.1 28 = .ok (.ireturn, 1) := by decide +kernel
theorem dd_X3_fit_29 : decode Y_X3_fit.2.1 29 = .ok (.iinc 2 1, 3) := by decide +kernel
theorem dd_X3_fit_32 : decode Y_X3_fit.2.1 32 = .ok (.goto (-30), 3) := by decide +kernel
theorem dd_X3_fit_35 : decode Y_X3_fit.2.1 35 = .ok (.iconst 1, 1) := by decide +kernel
theorem dd_X3_fit_36 : decode Y_X3_fit.2.1 36 = .ok (.ireturn, 1) := by decide +kernel
def F_X3_fit_L2 (x0 : Nat) (x1 : Nat) (K35 : zM → zO) : Nat → Int32 → zM → zO
  | 0, _, _ => none
  | n + 1, x2, M => zit ((M x0 1) ≤ x2) (K35 M) (zck (zin x2 8) (zck (zin (M (zgr x0 6) (zix x2)) (zal x1)) (zck (zin x2 8) (zit ((M x1 (zix (M (zgr x0 6) (zix x2)))) = (M (zgr x0 7) (zix x2))) (F_X3_fit_L2 x0 x1 K35 n (x2 + 1) M) (zck (zbo 0) (zI 0 M))))))
def F_X3_fit (t : Nat) (a1 : Nat) (M : zM) : zO := F_X3_fit_L2 t a1 (fun  (M1 : zM) => zck (zbo 1) (zI 1 M1)) zN 0 M
set_option maxHeartbeats 1000000 in
set_option maxRecDepth 20000 in
theorem ct_X3_fit_L2 (l : Launch) (hl : l.stackTraces = false) (G : zG) (x0 : Nat) (hx0 : zsh x0 = 3) (x1 : Nat) (hx1 : zsh x1 = 20) (K35 : zM → zO) (hK35 : ∀  (M : zM), zEv l G Y_X3_fit 1 0 35 [] [] M (K35 M)) : ∀ (n : Nat) (x2 : Int32) (M : zM), zEv l G Y_X3_fit 1 0 2 [(0, .ref (G.2.1 + x0)), (1, .ref (G.2.1 + x1)), (2, .int x2)] [] M (F_X3_fit_L2 x0 x1 K35 n x2 M) := by
  intro n
  induction n with
  | zero => intro x2 M; exact ev_none
  | succ n ih =>
    intro x2 M
    show zEv l G Y_X3_fit 1 0 2 [(0, .ref (G.2.1 + x0)), (1, .ref (G.2.1 + x1)), (2, .int x2)] [] M (zit ((M x0 1) ≤ x2) (K35 M) (zck (zin x2 8) (zck (zin (M (zgr x0 6) (zix x2)) (zal x1)) (zck (zin x2 8) (zit ((M x1 (zix (M (zgr x0 6) (zix x2)))) = (M (zgr x0 7) (zix x2))) (F_X3_fit_L2 x0 x1 K35 n (x2 + 1) M) (zck (zbo 0) (zI 0 M)))))))
    refine ev_iload_n dd_X3_fit_2 2 rfl ?_
    refine ev_aload_n dd_X3_fit_3 0 rfl ?_
    refine ev_getI gf_RX3_15 dd_X3_fit_4 hx0 (by decide) ?_
    refine ev_icmp_ge 35 dd_X3_fit_7 (by decide) ?_ ?_
    · refine ev_lv (lv' := []) [] rfl ?_
      exact hK35 _
    · refine ev_aload_n dd_X3_fit_10 1 rfl ?_
      refine ev_aload_n dd_X3_fit_11 0 rfl ?_
      refine ev_getR gf_RX3_31 dd_X3_fit_12 hx0 (by decide) ?_
      refine ev_iload_n dd_X3_fit_15 2 rfl ?_
      refine ev_iald dd_X3_fit_16 ((zg_3_6 hx0).1) ((zg_3_6 hx0).2) ?_
      refine ev_iald dd_X3_fit_17 hx1 rfl ?_
      refine ev_aload_n dd_X3_fit_18 0 rfl ?_
      refine ev_getR gf_RX3_34 dd_X3_fit_19 hx0 (by decide) ?_
      refine ev_iload_n dd_X3_fit_22 2 rfl ?_
      refine ev_iald dd_X3_fit_23 ((zg_3_7 hx0).1) ((zg_3_7 hx0).2) ?_
      refine ev_icmp_eq 29 dd_X3_fit_24 (by decide) ?_ ?_
      · refine ev_iinc (j := 2) (v := 1) (lv' := [(0, .ref (G.2.1 + x0)), (1, .ref (G.2.1 + x1)), (2, .int (x2 + 1))]) [1, 2, 0] dd_X3_fit_29 rfl (by decide) (by decide) rfl ?_
        refine ev_goto 2 dd_X3_fit_32 (by decide) ?_
        exact ih _ _
      · refine ev_lv (lv' := []) [] rfl ?_
        refine ev_iconst (v := 0) dd_X3_fit_27 (by decide) ?_
        exact ev_zret dd_X3_fit_28 rfl (Nat.le_of_ble_eq_true rfl) rfl
set_option maxHeartbeats 1000000 in
set_option maxRecDepth 20000 in
theorem ct_X3_fit (l : Launch) (hl : l.stackTraces = false) (G : zG) (t : Nat) (ht : zsh t = 3) (a1 : Nat) (ha1 : zsh a1 = 20) (M : zM) : zMt l G Y_X3_fit 1 [.ref (G.2.1 + t), .ref (G.2.1 + a1)] M (F_X3_fit t a1 M) := by
  refine zMt_of (by decide +kernel) (Nat.le_of_ble_eq_true rfl) ?_
  show zEv l G Y_X3_fit 1 0 0 [(0, .ref (G.2.1 + t)), (1, .ref (G.2.1 + a1))] [] M (F_X3_fit_L2 t a1 (fun  (M1 : zM) => zck (zbo 1) (zI 1 M1)) zN 0 M)
  refine ev_iconst (v := 0) dd_X3_fit_0 (by decide) ?_
  refine ev_istore_n (i := 2) (lv' := [(0, .ref (G.2.1 + t)), (1, .ref (G.2.1 + a1)), (2, .int 0)]) [1, 2, 0] dd_X3_fit_1 rfl (by decide) rfl ?_
  refine ct_X3_fit_L2 l hl G t ht a1 ha1 _ (fun M1 => ?_) zN _ _
  refine ev_iconst (v := 1) dd_X3_fit_35 (by decide) ?_
  exact ev_zret dd_X3_fit_36 rfl (Nat.le_of_ble_eq_true rfl) rfl
/-! X5_take -/
theorem dd_X5_take_0 : decode Y_X5_take.2.1 0 = .ok (.aload_n 0, 1) := by decide +kernel
theorem dd_X5_take_1 : decode Y_X5_take.2.1 1 = .ok (.getfield 46, 3) := by decide +kernel
theorem dd_X5_take_4 : decode Y_X5_take.2.1 4 = .ok (.aload_n 0, 1) := by decide +kernel
theorem dd_X5_take_5 : decode Y_X5_take.2.1 5 = .ok (.getfield 9, 3) := by decide +kernel
theorem dd_X5_take_8 : decode Y_X5_take.2.1 8 = .ok (.invokevirtual 94, 3) := by decide +kernel
theorem dd_X5_take_11 : decode Y_X5_take.2.1 11 = .ok (.ifCond .ne 4, 3) := by decide +kernel
theorem dd_X5_take_14 : decode Y_X5_take.2.1 14 = .ok (.return_, 1) := by decide +kernel
theorem dd_X5_take_15 : decode Y_X5_take.2.1 15 = .ok (.aload_n 0, 1) := by decide +kernel
theorem dd_X5_take_16 : decode Y_X5_take.2.1 16 = .ok (.getfield 24, 3) := by decide +kernel
theorem dd_X5_take_19 : decode Y_X5_take.2.1 19 = .ok (.ifCond .ne 17, 3) := by decide +kernel
theorem dd_X5_take_22 : decode Y_X5_take.2.1 22 = .ok (.aload_n 0, 1) := by decide +kernel
theorem dd_X5_take_23 : decode Y_X5_take.2.1 23 = .ok (.getfield 15, 3) := by decide +kernel
theorem dd_X5_take_26 : decode Y_X5_take.2.1 26 = .ok (.iconst 0, 1) := by decide +kernel
theorem dd_X5_take_27 : decode Y_X5_take.2.1 27 = .ok (.aload_n 0, 1) := by decide +kernel
theorem dd_X5_take_28 : decode Y_X5_take.2.1 28 = .ok (.getfield 18, 3) := by decide +kernel
theorem dd_X5_take_31 : decode Y_X5_take.2.1 31 = .ok (.iconst 0, 1) := by decide +kernel
theorem dd_X5_take_32 : decode Y_X5_take.2.1 32 = .ok (.iconst 3, 1) := by decide +kernel
theorem dd_X5_take_33 : decode Y_X5_take.2.1 33 = .ok (.invokestatic 65, 3) := by decide +kernel
theorem dd_X5_take_36 : decode Y_X5_take.2.1 36 = .ok (.aload_n 0, 1) := by decide +kernel
theorem dd_X5_take_37 : decode Y_X5_take.2.1 37 = .ok (.dup, 1) := by decide +kernel
theorem dd_X5_take_38 : decode Y_X5_take.2.1 38 = .ok (.getfield 24, 3) := by decide +kernel
theorem dd_X5_take_41 : decode Y_X5_take.2.1 41 = .ok (.iconst 1, 1) := by decide +kernel
theorem dd_X5_take_42 : decode Y_X5_take.2.1 42 = .ok (.iadd, 1) := by decide +kernel
theorem dd_X5_take_43 : decode Y_X5_take.2.1 43 = .ok (.putfield 24, 3) := by decide +kernel
theorem dd_X5_take_46 : decode Y_X5_take.2.1 46 = .ok (.aload_n 0, 1) := by decide +kernel
theorem dd_X5_take_47 : decode Y_X5_take.2.1 47 = .ok (.getfield 31, 3) := by decide +kernel
theorem dd_X5_take_50 : decode Y_X5_take.2.1 50 = .ok (.ifCond .eq 45, 3) := by decide +kernel
theorem dd_X5_take_53 : decode Y_X5_take.2.1 53 = .ok (.iconst 0, 1) := by decide +kernel
theorem dd_X5_take_54 : decode Y_X5_take.2.1 54 = .ok (.istore_n 1, 1) := by decide +kernel
theorem dd_X5_take_55 : decode Y_X5_take.2.1 55 = .ok (.iload_n 1, 1) := by decide +kernel
theorem dd_X5_take_56 : decode Y_X5_take.2.1 56 = .ok (.aload_n 0, 1) := by decide +kernel
theorem dd_X5_take_57 : decode Y_X5_take.2.1 57 = .ok (.getfield 38, 3) := by decide +kernel
theorem dd_X5_take_60 : decode Y_X5_take.2.1 60 = .ok (.getfield 77, 3) := by decide +kernel
theorem dd_X5_take_63 : decode Y_X5_take.2.1 63 = .ok (.getfield 81, 3) := by decide +kernel
theorem dd_X5_take_66 : decode Y_X5_take.2.1 66 = .ok (.if_icmp .ge 29, 3) := by decide +kernel
theorem dd_X5_take_69 : decode Y_X5_take.2.1 69 = .ok (.aload_n 0, 1) := by decide +kernel
theorem dd_X5_take_70 : decode Y_X5_take.2.1 70 = .ok (.getfield 21, 3) := by decide +kernel
theorem dd_X5_take_73 : decode Y_X5_take.2.1 73 = .ok (.iload_n 1, 1) := by decide +kernel
theorem dd_X5_take_74 : decode Y_X5_take.2.1 74 = .ok (.bipush 8, 2) := by decide +kernel
theorem dd_X5_take_76 : decode Y_X5_take.2.1 76 = .ok (.imul, 1) := by decide +kernel
theorem dd_X5_take_77 : decode Y_X5_take.2.1 77 = .ok (.aload_n 0, 1) := by decide +kernel
theorem dd_X5_take_78 : decode Y_X5_take.2.1 78 = .ok (.getfield 9, 3) := by decide +kernel
theorem dd_X5_take_81 : decode Y_X5_take.2.1 81 = .ok (.iload_n 1, 1) := by decide +kernel
theorem dd_X5_take_82 : decode Y_X5_take.2.1 82 = .ok (.iaload, 1) := by decide +kernel
theorem dd_X5_take_83 : decode Y_X5_take.2.1 83 = .ok (.iadd, 1) := by decide +kernel
theorem dd_X5_take_84 : decode Y_X5_take.2.1 84 = .ok (.dup2, 1) := by decide +kernel
theorem dd_X5_take_85 : decode Y_X5_take.2.1 85 = .ok (.iaload, 1) := by decide +kernel
theorem dd_X5_take_86 : decode Y_X5_take.2.1 86 = .ok (.iconst 1, 1) := by decide +kernel
theorem dd_X5_take_87 : decode Y_X5_take.2.1 87 = .ok (.iadd, 1) := by decide +kernel
theorem dd_X5_take_88 : decode Y_X5_take.2.1 88 = .ok (.iastore, 1) := by decide +kernel
theorem dd_X5_take_89 : decode Y_X5_take.2.1 89 = .ok (.iinc 1 1, 3) := by decide +kernel
theorem dd_X5_take_92 : decode Y_X5_take.2.1 92 = .ok (.goto (-37), 3) := by decide +kernel
theorem dd_X5_take_95 : decode Y_X5_take.2.1 95 = .ok (.return_, 1) := by decide +kernel
def F_X5_take_L55 (x0 : Nat) (K95 : zM → zO) : Nat → Int32 → zM → zO
  | 0, _, _ => none
  | n + 1, x1, M => zit ((M (zgr (zgr x0 0) 0) 0) ≤ x1) (K95 M) (zck (zin x1 8) (zck (zin ((x1 * 8) + (M (zgr x0 3) (zix x1))) 64) (zck (zin ((x1 * 8) + (M (zgr x0 3) (zix x1))) 64) (zst (zup M (zgr x0 6) (zix ((x1 * 8) + (M (zgr x0 3) (zix x1)))) ((M (zgr x0 6) (zix ((x1 * 8) + (M (zgr x0 3) (zix x1))))) + 1)) (fun M5 => F_X5_take_L55 x0 K95 n (x1 + 1) M5)))))
def F_X5_take (t : Nat) (M : zM) : zO := zbI (F_X3_fit (zgr t 2) (zgr t 3) M) (fun r1 M1 => zit (r1 = 0) (zV M1) (zjo (fun  (M3 : zM) => zst (zup M3 t 7 ((M3 t 7) + 1)) (fun M4 => zjo (fun  (M7 : zM) => zV M7) (fun (k2 : zM → zO) => zit ((M4 t 9) = 0) (k2 M4) (F_X5_take_L55 t (fun  (M6 : zM) => k2 M6) zN 0 M4)))) (fun (k1 : zM → zO) => zit ((M1 t 7) = 0) (zck (zcpk 0 0 3 3 3) (zst (zupA M1 (zgr t 5) (va_cpy (M1 (zgr t 4)) (M1 (zgr t 5)) (zix 0) (zix 0) (zix 3))) (fun M2 => k1 M2))) (k1 M1))))
set_option maxHeartbeats 1000000 in
set_option maxRecDepth 20000 in
theorem ct_X5_take_L55 (l : Launch) (hl : l.stackTraces = false) (G : zG) (x0 : Nat) (hx0 : zsh x0 = 5) (K95 : zM → zO) (hK95 : ∀  (M : zM), zEv l G Y_X5_take 8 0 95 [] [] M (K95 M)) : ∀ (n : Nat) (x1 : Int32) (M : zM), zEv l G Y_X5_take 8 0 55 [(0, .ref (G.2.1 + x0)), (1, .int x1)] [] M (F_X5_take_L55 x0 K95 n x1 M) := by
  intro n
  induction n with
  | zero => intro x1 M; exact ev_none
  | succ n ih =>
    intro x1 M
    show zEv l G Y_X5_take 8 0 55 [(0, .ref (G.2.1 + x0)), (1, .int x1)] [] M (zit ((M (zgr (zgr x0 0) 0) 0) ≤ x1) (K95 M) (zck (zin x1 8) (zck (zin ((x1 * 8) + (M (zgr x0 3) (zix x1))) 64) (zck (zin ((x1 * 8) + (M (zgr x0 3) (zix x1))) 64) (zst (zup M (zgr x0 6) (zix ((x1 * 8) + (M (zgr x0 3) (zix x1)))) ((M (zgr x0 6) (zix ((x1 * 8) + (M (zgr x0 3) (zix x1))))) + 1)) (fun M5 => F_X5_take_L55 x0 K95 n (x1 + 1) M5))))))
    refine ev_iload_n dd_X5_take_55 1 rfl ?_
    refine ev_aload_n dd_X5_take_56 0 rfl ?_
    refine ev_getR gf_RX5_38 dd_X5_take_57 hx0 (by decide) ?_
    refine ev_getR gf_RX5_77 dd_X5_take_60 (zg_5_0 hx0) (by decide) ?_
    refine ev_getI gf_RX5_81 dd_X5_take_63 (zg_10_0 (zg_5_0 hx0)) (by decide) ?_
    refine ev_icmp_ge 95 dd_X5_take_66 (by decide) ?_ ?_
    · refine ev_lv (lv' := []) [] rfl ?_
      exact hK95 _
    · refine ev_aload_n dd_X5_take_69 0 rfl ?_
      refine ev_getR gf_RX5_21 dd_X5_take_70 hx0 (by decide) ?_
      refine ev_iload_n dd_X5_take_73 1 rfl ?_
      refine ev_bipush (v := 8) dd_X5_take_74 (by decide) ?_
      refine ev_imul dd_X5_take_76 ?_
      refine ev_aload_n dd_X5_take_77 0 rfl ?_
      refine ev_getR gf_RX5_9 dd_X5_take_78 hx0 (by decide) ?_
      refine ev_iload_n dd_X5_take_81 1 rfl ?_
      refine ev_iald dd_X5_take_82 ((zg_5_3 hx0).1) ((zg_5_3 hx0).2) ?_
      refine ev_iadd dd_X5_take_83 ?_
      refine ev_dup2 dd_X5_take_84 rfl rfl ?_
      refine ev_iald dd_X5_take_85 ((zg_5_6 hx0).1) ((zg_5_6 hx0).2) ?_
      refine ev_iconst (v := 1) dd_X5_take_86 (by decide) ?_
      refine ev_iadd dd_X5_take_87 ?_
      refine ev_iast dd_X5_take_88 ((zg_5_6 hx0).1) ((zg_5_6 hx0).2) ?_
      refine ev_st (fun M5 => ?_)
      refine ev_iinc (j := 1) (v := 1) (lv' := [(0, .ref (G.2.1 + x0)), (1, .int (x1 + 1))]) [1, 0] dd_X5_take_89 rfl (by decide) (by decide) rfl ?_
      refine ev_goto 55 dd_X5_take_92 (by decide) ?_
      exact ih _ _
set_option maxHeartbeats 1000000 in
set_option maxRecDepth 20000 in
theorem ct_X5_take (l : Launch) (hl : l.stackTraces = false) (G : zG) (t : Nat) (ht : zsh t = 5) (M : zM) : zMt l G Y_X5_take 8 [.ref (G.2.1 + t)] M (F_X5_take t M) := by
  refine zMt_of (by decide +kernel) (Nat.le_of_ble_eq_true rfl) ?_
  show zEv l G Y_X5_take 8 0 0 [(0, .ref (G.2.1 + t))] [] M (zbI (F_X3_fit (zgr t 2) (zgr t 3) M) (fun r1 M1 => zit (r1 = 0) (zV M1) (zjo (fun  (M3 : zM) => zst (zup M3 t 7 ((M3 t 7) + 1)) (fun M4 => zjo (fun  (M7 : zM) => zV M7) (fun (k2 : zM → zO) => zit ((M4 t 9) = 0) (k2 M4) (F_X5_take_L55 t (fun  (M6 : zM) => k2 M6) zN 0 M4)))) (fun (k1 : zM → zO) => zit ((M1 t 7) = 0) (zck (zcpk 0 0 3 3 3) (zst (zupA M1 (zgr t 5) (va_cpy (M1 (zgr t 4)) (M1 (zgr t 5)) (zix 0) (zix 0) (zix 3))) (fun M2 => k1 M2))) (k1 M1)))))
  refine ev_aload_n dd_X5_take_0 0 rfl ?_
  refine ev_getR gf_RX5_46 dd_X5_take_1 ht (by decide) ?_
  refine ev_aload_n dd_X5_take_4 0 rfl ?_
  refine ev_getR gf_RX5_9 dd_X5_take_5 ht (by decide) ?_
  refine ev_callVI (As := [.ref (G.2.1 + (zgr t 3))]) cl_RX5_94 (ct_X3_fit l hl G (zgr t 2) (zg_5_2 ht) (zgr t 3) ((zg_5_3 ht).1) M) dd_X5_take_8 (zg_5_2 ht) (by decide) (Nat.le_of_ble_eq_true rfl) (Nat.le_of_ble_eq_true rfl) rfl rfl (fun r1 M1 => ?_)
  refine ev_if_ne 15 dd_X5_take_11 (by decide) ?_ ?_
  · refine ev_aload_n dd_X5_take_15 0 rfl ?_
    refine ev_getI gf_RX5_24 dd_X5_take_16 ht (by decide) ?_
    refine ev_jo (fun (k1 : zM → zO) => ∀  (M3 : zM), zEv l G Y_X5_take 8 0 36 [(0, .ref (G.2.1 + t))] [] M3 (k1 M3)) ?_ (fun k1 hk1 => ?_)
    · intro M3
      refine ev_aload_n dd_X5_take_36 0 rfl ?_
      refine ev_dup dd_X5_take_37 rfl ?_
      refine ev_getI gf_RX5_24 dd_X5_take_38 ht (by decide) ?_
      refine ev_iconst (v := 1) dd_X5_take_41 (by decide) ?_
      refine ev_iadd dd_X5_take_42 ?_
      refine ev_putI gw_RX5_24 dd_X5_take_43 ht (by decide) ?_
      refine ev_st (fun M4 => ?_)
      refine ev_aload_n dd_X5_take_46 0 rfl ?_
      refine ev_getI gf_RX5_31 dd_X5_take_47 ht (by decide) ?_
      refine ev_jo (fun (k2 : zM → zO) => ∀  (M7 : zM), zEv l G Y_X5_take 8 0 95 [] [] M7 (k2 M7)) ?_ (fun k2 hk2 => ?_)
      · intro M7
        exact ev_vret dd_X5_take_95 rfl (Nat.le_of_ble_eq_true rfl) rfl
      · refine ev_if_eq 95 dd_X5_take_50 (by decide) ?_ ?_
        · refine ev_lv (lv' := []) [] rfl ?_
          exact hk2 _
        · refine ev_iconst (v := 0) dd_X5_take_53 (by decide) ?_
          refine ev_istore_n (i := 1) (lv' := [(0, .ref (G.2.1 + t)), (1, .int 0)]) [1, 0] dd_X5_take_54 rfl (by decide) rfl ?_
          refine ct_X5_take_L55 l hl G t ht _ (fun M6 => ?_) zN _ _
          exact hk2 _
    · refine ev_if_ne 36 dd_X5_take_19 (by decide) ?_ ?_
      · exact hk1 _
      · refine ev_aload_n dd_X5_take_22 0 rfl ?_
        refine ev_getR gf_RX5_15 dd_X5_take_23 ht (by decide) ?_
        refine ev_iconst (v := 0) dd_X5_take_26 (by decide) ?_
        refine ev_aload_n dd_X5_take_27 0 rfl ?_
        refine ev_getR gf_RX5_18 dd_X5_take_28 ht (by decide) ?_
        refine ev_iconst (v := 0) dd_X5_take_31 (by decide) ?_
        refine ev_iconst (v := 3) dd_X5_take_32 (by decide) ?_
        refine ev_copyi cw_RX5_65 dd_X5_take_33 ((zg_5_4 ht).1) ((zg_5_4 ht).2) ((zg_5_5 ht).1) ((zg_5_5 ht).2) (Nat.le_of_ble_eq_true rfl) ?_
        refine ev_st (fun M2 => ?_)
        exact hk1 _
  · refine ev_lv (lv' := []) [] rfl ?_
    exact ev_vret dd_X5_take_14 rfl (Nat.le_of_ble_eq_true rfl) rfl
/-! X5_grow -/
theorem dd_X5_grow_0 : decode Y_X5_grow.2.1 0 = .ok (.iload_n 1, 1) := by decide +kernel
theorem dd_X5_grow_1 : decode Y_X5_grow.2.1 1 = .ok (.aload_n 0, 1) := by decide +kernel
theorem dd_X5_grow_2 : decode Y_X5_grow.2.1 2 = .ok (.getfield 28, 3) := by decide +kernel
theorem dd_X5_grow_5 : decode Y_X5_grow.2.1 5 = .ok (.if_icmp .ge 8, 3) := by decide +kernel
theorem dd_X5_grow_8 : decode Y_X5_grow.2.1 8 = .ok (.iload_n 1, 1) := by decide +kernel
theorem dd_X5_grow_9 : decode Y_X5_grow.2.1 9 = .ok (.iconst 3, 1) := by decide +kernel
theorem dd_X5_grow_10 : decode Y_X5_grow.2.1 10 = .ok (.if_icmp .lt 8, 3) := by decide +kernel
theorem dd_X5_grow_13 : decode Y_X5_grow.2.1 13 = .ok (.aload_n 0, 1) := by decide +kernel
theorem dd_X5_grow_14 : decode Y_X5_grow.2.1 14 = .ok (.invokevirtual 74, 3) := by decide +kernel
theorem dd_X5_grow_17 : decode Y_X5_grow.2.1 17 = .ok (.return_, 1) := by decide +kernel
theorem dd_X5_grow_18 : decode Y_X5_grow.2.1 18 = .ok (.iconst 0, 1) := by decide +kernel
theorem dd_X5_grow_19 : decode Y_X5_grow.2.1 19 = .ok (.istore_n 2, 1) := by decide +kernel
theorem dd_X5_grow_20 : decode Y_X5_grow.2.1 20 = .ok (.iload_n 2, 1) := by decide +kernel
theorem dd_X5_grow_21 : decode Y_X5_grow.2.1 21 = .ok (.aload_n 0, 1) := by decide +kernel
theorem dd_X5_grow_22 : decode Y_X5_grow.2.1 22 = .ok (.getfield 38, 3) := by decide +kernel
theorem dd_X5_grow_25 : decode Y_X5_grow.2.1 25 = .ok (.getfield 77, 3) := by decide +kernel
theorem dd_X5_grow_28 : decode Y_X5_grow.2.1 28 = .ok (.getfield 81, 3) := by decide +kernel
theorem dd_X5_grow_31 : decode Y_X5_grow.2.1 31 = .ok (.if_icmp .ge 88, 3) := by decide +kernel
theorem dd_X5_grow_34 : decode Y_X5_grow.2.1 34 = .ok (.iload_n 2, 1) := by decide +kernel
theorem dd_X5_grow_35 : decode Y_X5_grow.2.1 35 = .ok (.iconst 1, 1) := by decide +kernel
theorem dd_X5_grow_36 : decode Y_X5_grow.2.1 36 = .ok (.iadd, 1) := by decide +kernel
theorem dd_X5_grow_37 : decode Y_X5_grow.2.1 37 = .ok (.istore_n 3, 1) := by decide +kernel
theorem dd_X5_grow_38 : decode Y_X5_grow.2.1 38 = .ok (.iload_n 3, 1) := by decide +kernel
theorem dd_X5_grow_39 : decode Y_X5_grow.2.1 39 = .ok (.aload_n 0, 1) := by decide +kernel
theorem dd_X5_grow_40 : decode Y_X5_grow.2.1 40 = .ok (.getfield 38, 3) := by decide +kernel
theorem dd_X5_grow_43 : decode Y_X5_grow.2.1 43 = .ok (.getfield 77, 3) := by decide +kernel
theorem dd_X5_grow_46 : decode Y_X5_grow.2.1 46 = .ok (.getfield 81, 3) := by decide +kernel
theorem dd_X5_grow_49 : decode Y_X5_grow.2.1 49 = .ok (.if_icmp .ge 64, 3) := by decide +kernel
theorem dd_X5_grow_52 : decode Y_X5_grow.2.1 52 = .ok (.aload_n 0, 1) := by decide +kernel
theorem dd_X5_grow_53 : decode Y_X5_grow.2.1 53 = .ok (.getfield 42, 3) := by decide +kernel
theorem dd_X5_grow_56 : decode Y_X5_grow.2.1 56 = .ok (.iload_n 2, 1) := by decide +kernel
theorem dd_X5_grow_57 : decode Y_X5_grow.2.1 57 = .ok (.iload_n 3, 1) := by decide +kernel
theorem dd_X5_grow_58 : decode Y_X5_grow.2.1 58 = .ok (.aload_n 0, 1) := by decide +kernel
theorem dd_X5_grow_59 : decode Y_X5_grow.2.1 59 = .ok (.getfield 9, 3) := by decide +kernel
theorem dd_X5_grow_62 : decode Y_X5_grow.2.1 62 = .ok (.iload_n 2, 1) := by decide +kernel
theorem dd_X5_grow_63 : decode Y_X5_grow.2.1 63 = .ok (.iaload, 1) := by decide +kernel
theorem dd_X5_grow_64 : decode Y_X5_grow.2.1 64 = .ok (.aload_n 0, 1) := by decide +kernel
theorem dd_X5_grow_65 : decode Y_X5_grow.2.1 65 = .ok (.getfield 9, 3) := by decide +kernel
theorem dd_X5_grow_68 : decode Y_X5_grow.2.1 68 = .ok (.iload_n 3, 1) := by decide +kernel
theorem dd_X5_grow_69 : decode Y_X5_grow.2.1 69 = .ok (.iaload, 1) := by decide +kernel
theorem dd_X5_grow_70 : decode Y_X5_grow.2.1 70 = .ok (.invokevirtual 86, 3) := by decide +kernel
theorem dd_X5_grow_73 : decode Y_X5_grow.2.1 73 = .ok (.ifCond .eq 34, 3) := by decide +kernel
theorem dd_X5_grow_76 : decode Y_X5_grow.2.1 76 = .ok (.aload_n 0, 1) := by decide +kernel
theorem dd_X5_grow_77 : decode Y_X5_grow.2.1 77 = .ok (.getfield 15, 3) := by decide +kernel
theorem dd_X5_grow_80 : decode Y_X5_grow.2.1 80 = .ok (.iload_n 1, 1) := by decide +kernel
theorem dd_X5_grow_81 : decode Y_X5_grow.2.1 81 = .ok (.bipush 10, 2) := by decide +kernel
theorem dd_X5_grow_83 : decode Y_X5_grow.2.1 83 = .ok (.iload_n 2, 1) := by decide +kernel
theorem dd_X5_grow_84 : decode Y_X5_grow.2.1 84 = .ok (.imul, 1) := by decide +kernel
theorem dd_X5_grow_85 : decode Y_X5_grow.2.1 85 = .ok (.iload_n 3, 1) := by decide +kernel
theorem dd_X5_grow_86 : decode Y_X5_grow.2.1 86 = .ok (.iadd, 1) := by decide +kernel
theorem dd_X5_grow_87 : decode Y_X5_grow.2.1 87 = .ok (.iastore, 1) := by decide +kernel
theorem dd_X5_grow_88 : decode Y_X5_grow.2.1 88 = .ok (.aload_n 0, 1) := by decide +kernel
theorem dd_X5_grow_89 : decode Y_X5_grow.2.1 89 = .ok (.iload_n 2, 1) := by decide +kernel
theorem dd_X5_grow_90 : decode Y_X5_grow.2.1 90 = .ok (.iload_n 3, 1) := by decide +kernel
theorem dd_X5_grow_91 : decode Y_X5_grow.2.1 91 = .ok (.invokevirtual 90, 3) := by decide +kernel
theorem dd_X5_grow_94 : decode Y_X5_grow.2.1 94 = .ok (.aload_n 0, 1) := by decide +kernel
theorem dd_X5_grow_95 : decode Y_X5_grow.2.1 95 = .ok (.iload_n 1, 1) := by decide +kernel
theorem dd_X5_grow_96 : decode Y_X5_grow.2.1 96 = .ok (.iconst 1, 1) := by decide +kernel
theorem dd_X5_grow_97 : decode Y_X5_grow.2.1 97 = .ok (.iadd, 1) := by decide +kernel
theorem dd_X5_grow_98 : decode Y_X5_grow.2.1 98 = .ok (.invokevirtual 71, 3) := by decide +kernel
theorem dd_X5_grow_101 : decode Y_X5_grow.2.1 101 = .ok (.aload_n 0, 1) := by decide +kernel
theorem dd_X5_grow_102 : decode Y_X5_grow.2.1 102 = .ok (.iload_n 2, 1) := by decide +kernel
theorem dd_X5_grow_103 : decode Y_X5_grow.2.1 103 = .ok (.iload_n 3, 1) := by decide +kernel
theorem dd_X5_grow_104 : decode Y_X5_grow.2.1 104 = .ok (.invokevirtual 90, 3) := by decide +kernel
theorem dd_X5_grow_107 : decode Y_X5_grow.2.1 107 = .ok (.iinc 3 1, 3) := by decide +kernel
theorem dd_X5_grow_110 : decode Y_X5_grow.2.1 110 = .ok (.goto (-72), 3) := by decide +kernel
theorem dd_X5_grow_113 : decode Y_X5_grow.2.1 113 = .ok (.iinc 2 1, 3) := by decide +kernel
theorem dd_X5_grow_116 : decode Y_X5_grow.2.1 116 = .ok (.goto (-96), 3) := by decide +kernel
theorem dd_X5_grow_119 : decode Y_X5_grow.2.1 119 = .ok (.return_, 1) := by decide +kernel
def F_X5_grow_L38 (R : Nat → Int32 → zM → zO) (x0 : Nat) (x1 : Int32) (x2 : Int32) (K113 : zM → zO) : Nat → Int32 → zM → zO
  | 0, _, _ => none
  | n + 1, x3, M => zit ((M (zgr (zgr x0 0) 0) 0) ≤ x3) (K113 M) (zck (zin x2 8) (zck (zin x3 8) (zbI (F_X2_allow (zgr x0 1) x2 x3 (M (zgr x0 3) (zix x2)) (M (zgr x0 3) (zix x3)) M) (fun r1 M1 => zjo (fun  (M6 : zM) => F_X5_grow_L38 R x0 x1 x2 K113 n (x3 + 1) M6) (fun (k2 : zM → zO) => zit (r1 = 0) (k2 M1) (zck (zin x1 3) (zst (zup M1 (zgr x0 4) (zix x1) ((10 * x2) + x3)) (fun M2 => zbV (F_X5_exchange x0 x2 x3 M2) (fun M3 => zbV (R x0 (x1 + 1) M3) (fun M4 => zbV (F_X5_exchange x0 x2 x3 M4) (fun M5 => k2 M5)))))))))))
def F_X5_grow_L20 (R : Nat → Int32 → zM → zO) (x0 : Nat) (x1 : Int32) (K119 : zM → zO) : Nat → Int32 → zM → zO
  | 0, _, _ => none
  | n + 1, x2, M => zit ((M (zgr (zgr x0 0) 0) 0) ≤ x2) (K119 M) (zlt (x2 + 1) (fun v1 => F_X5_grow_L38 R x0 x1 x2 (fun  (M7 : zM) => F_X5_grow_L20 R x0 x1 K119 n (x2 + 1) M7) zN v1 M))
def F_X5_grow (R : Nat → Int32 → zM → zO) (t : Nat) (a1 : Int32) (M : zM) : zO := zjo (fun  (M9 : zM) => zbV (F_X5_take t M9) (fun M10 => zV M10)) (fun (k1 : zM → zO) => zit ((M t 8) ≤ a1) (k1 M) (zit (a1 < 3) (F_X5_grow_L20 R t a1 (fun  (M8 : zM) => zV M8) zN 0 M) (k1 M)))
def Fr_X5_grow : Nat → Nat → Int32 → zM → zO
  | 0, _, _, _ => none
  | n + 1, t, a1, M => F_X5_grow (Fr_X5_grow n) t a1 M
set_option maxHeartbeats 1000000 in
set_option maxRecDepth 20000 in
theorem ct_X5_grow_L38 (l : Launch) (hl : l.stackTraces = false) (G : zG) (D : Nat) (R : Nat → Int32 → zM → zO) (hR : ∀ (t : Nat) (ht : zsh t = 5) (a1 : Int32) (M : zM), zMt l G Y_X5_grow D [.ref (G.2.1 + t), .int a1] M (R t a1 M)) (x0 : Nat) (hx0 : zsh x0 = 5) (x1 : Int32) (x2 : Int32) (K113 : zM → zO) (hK113 : ∀  (M : zM), zEv l G Y_X5_grow (D + 12) 0 113 [(0, .ref (G.2.1 + x0)), (1, .int x1), (2, .int x2)] [] M (K113 M)) : ∀ (n : Nat) (x3 : Int32) (M : zM), zEv l G Y_X5_grow (D + 12) 0 38 [(0, .ref (G.2.1 + x0)), (1, .int x1), (2, .int x2), (3, .int x3)] [] M (F_X5_grow_L38 R x0 x1 x2 K113 n x3 M) := by
  intro n
  induction n with
  | zero => intro x3 M; exact ev_none
  | succ n ih =>
    intro x3 M
    show zEv l G Y_X5_grow (D + 12) 0 38 [(0, .ref (G.2.1 + x0)), (1, .int x1), (2, .int x2), (3, .int x3)] [] M (zit ((M (zgr (zgr x0 0) 0) 0) ≤ x3) (K113 M) (zck (zin x2 8) (zck (zin x3 8) (zbI (F_X2_allow (zgr x0 1) x2 x3 (M (zgr x0 3) (zix x2)) (M (zgr x0 3) (zix x3)) M) (fun r1 M1 => zjo (fun  (M6 : zM) => F_X5_grow_L38 R x0 x1 x2 K113 n (x3 + 1) M6) (fun (k2 : zM → zO) => zit (r1 = 0) (k2 M1) (zck (zin x1 3) (zst (zup M1 (zgr x0 4) (zix x1) ((10 * x2) + x3)) (fun M2 => zbV (F_X5_exchange x0 x2 x3 M2) (fun M3 => zbV (R x0 (x1 + 1) M3) (fun M4 => zbV (F_X5_exchange x0 x2 x3 M4) (fun M5 => k2 M5))))))))))))
    refine ev_iload_n dd_X5_grow_38 3 rfl ?_
    refine ev_aload_n dd_X5_grow_39 0 rfl ?_
    refine ev_getR gf_RX5_38 dd_X5_grow_40 hx0 (by decide) ?_
    refine ev_getR gf_RX5_77 dd_X5_grow_43 (zg_5_0 hx0) (by decide) ?_
    refine ev_getI gf_RX5_81 dd_X5_grow_46 (zg_10_0 (zg_5_0 hx0)) (by decide) ?_
    refine ev_icmp_ge 113 dd_X5_grow_49 (by decide) ?_ ?_
    · refine ev_lv (lv' := [(0, .ref (G.2.1 + x0)), (1, .int x1), (2, .int x2)]) [0, 1, 2] rfl ?_
      exact hK113 _
    · refine ev_aload_n dd_X5_grow_52 0 rfl ?_
      refine ev_getR gf_RX5_42 dd_X5_grow_53 hx0 (by decide) ?_
      refine ev_iload_n dd_X5_grow_56 2 rfl ?_
      refine ev_iload_n dd_X5_grow_57 3 rfl ?_
      refine ev_aload_n dd_X5_grow_58 0 rfl ?_
      refine ev_getR gf_RX5_9 dd_X5_grow_59 hx0 (by decide) ?_
      refine ev_iload_n dd_X5_grow_62 2 rfl ?_
      refine ev_iald dd_X5_grow_63 ((zg_5_3 hx0).1) ((zg_5_3 hx0).2) ?_
      refine ev_aload_n dd_X5_grow_64 0 rfl ?_
      refine ev_getR gf_RX5_9 dd_X5_grow_65 hx0 (by decide) ?_
      refine ev_iload_n dd_X5_grow_68 3 rfl ?_
      refine ev_iald dd_X5_grow_69 ((zg_5_3 hx0).1) ((zg_5_3 hx0).2) ?_
      refine ev_callVI (As := [.int x2, .int x3, .int (M (zgr x0 3) (zix x2)), .int (M (zgr x0 3) (zix x3))]) cl_RX5_86 (ct_X2_allow l hl G (zgr x0 1) (zg_5_1 hx0) x2 x3 (M (zgr x0 3) (zix x2)) (M (zgr x0 3) (zix x3)) M) dd_X5_grow_70 (zg_5_1 hx0) (by omega) (Nat.le_of_ble_eq_true rfl) (Nat.le_of_ble_eq_true rfl) rfl rfl (fun r1 M1 => ?_)
      refine ev_jo (fun (k2 : zM → zO) => ∀  (M6 : zM), zEv l G Y_X5_grow (D + 12) 0 107 [(0, .ref (G.2.1 + x0)), (1, .int x1), (2, .int x2), (3, .int x3)] [] M6 (k2 M6)) ?_ (fun k2 hk2 => ?_)
      · intro M6
        refine ev_iinc (j := 3) (v := 1) (lv' := [(0, .ref (G.2.1 + x0)), (1, .int x1), (2, .int x2), (3, .int (x3 + 1))]) [1, 2, 3, 0] dd_X5_grow_107 rfl (by decide) (by decide) rfl ?_
        refine ev_goto 38 dd_X5_grow_110 (by decide) ?_
        exact ih _ _
      · refine ev_if_eq 107 dd_X5_grow_73 (by decide) ?_ ?_
        · exact hk2 _
        · refine ev_aload_n dd_X5_grow_76 0 rfl ?_
          refine ev_getR gf_RX5_15 dd_X5_grow_77 hx0 (by decide) ?_
          refine ev_iload_n dd_X5_grow_80 1 rfl ?_
          refine ev_bipush (v := 10) dd_X5_grow_81 (by decide) ?_
          refine ev_iload_n dd_X5_grow_83 2 rfl ?_
          refine ev_imul dd_X5_grow_84 ?_
          refine ev_iload_n dd_X5_grow_85 3 rfl ?_
          refine ev_iadd dd_X5_grow_86 ?_
          refine ev_iast dd_X5_grow_87 ((zg_5_4 hx0).1) ((zg_5_4 hx0).2) ?_
          refine ev_st (fun M2 => ?_)
          refine ev_aload_n dd_X5_grow_88 0 rfl ?_
          refine ev_iload_n dd_X5_grow_89 2 rfl ?_
          refine ev_iload_n dd_X5_grow_90 3 rfl ?_
          refine ev_callVV (As := [.int x2, .int x3]) cl_RX5_90 (ct_X5_exchange l hl G x0 hx0 x2 x3 M2) dd_X5_grow_91 hx0 (by omega) (Nat.le_of_ble_eq_true rfl) (Nat.le_of_ble_eq_true rfl) rfl rfl (fun M3 => ?_)
          refine ev_aload_n dd_X5_grow_94 0 rfl ?_
          refine ev_iload_n dd_X5_grow_95 1 rfl ?_
          refine ev_iconst (v := 1) dd_X5_grow_96 (by decide) ?_
          refine ev_iadd dd_X5_grow_97 ?_
          refine ev_callVV (As := [.int (x1 + 1)]) cl_RX5_71 (hR x0 hx0 (x1 + 1) M3) dd_X5_grow_98 hx0 (by omega) (Nat.le_of_ble_eq_true rfl) (Nat.le_of_ble_eq_true rfl) rfl rfl (fun M4 => ?_)
          refine ev_aload_n dd_X5_grow_101 0 rfl ?_
          refine ev_iload_n dd_X5_grow_102 2 rfl ?_
          refine ev_iload_n dd_X5_grow_103 3 rfl ?_
          refine ev_callVV (As := [.int x2, .int x3]) cl_RX5_90 (ct_X5_exchange l hl G x0 hx0 x2 x3 M4) dd_X5_grow_104 hx0 (by omega) (Nat.le_of_ble_eq_true rfl) (Nat.le_of_ble_eq_true rfl) rfl rfl (fun M5 => ?_)
          exact hk2 _
set_option maxHeartbeats 1000000 in
set_option maxRecDepth 20000 in
theorem ct_X5_grow_L20 (l : Launch) (hl : l.stackTraces = false) (G : zG) (D : Nat) (R : Nat → Int32 → zM → zO) (hR : ∀ (t : Nat) (ht : zsh t = 5) (a1 : Int32) (M : zM), zMt l G Y_X5_grow D [.ref (G.2.1 + t), .int a1] M (R t a1 M)) (x0 : Nat) (hx0 : zsh x0 = 5) (x1 : Int32) (K119 : zM → zO) (hK119 : ∀  (M : zM), zEv l G Y_X5_grow (D + 12) 0 119 [] [] M (K119 M)) : ∀ (n : Nat) (x2 : Int32) (M : zM), zEv l G Y_X5_grow (D + 12) 0 20 [(0, .ref (G.2.1 + x0)), (1, .int x1), (2, .int x2)] [] M (F_X5_grow_L20 R x0 x1 K119 n x2 M) := by
  intro n
  induction n with
  | zero => intro x2 M; exact ev_none
  | succ n ih =>
    intro x2 M
    show zEv l G Y_X5_grow (D + 12) 0 20 [(0, .ref (G.2.1 + x0)), (1, .int x1), (2, .int x2)] [] M (zit ((M (zgr (zgr x0 0) 0) 0) ≤ x2) (K119 M) (zlt (x2 + 1) (fun v1 => F_X5_grow_L38 R x0 x1 x2 (fun  (M7 : zM) => F_X5_grow_L20 R x0 x1 K119 n (x2 + 1) M7) zN v1 M)))
    refine ev_iload_n dd_X5_grow_20 2 rfl ?_
    refine ev_aload_n dd_X5_grow_21 0 rfl ?_
    refine ev_getR gf_RX5_38 dd_X5_grow_22 hx0 (by decide) ?_
    refine ev_getR gf_RX5_77 dd_X5_grow_25 (zg_5_0 hx0) (by decide) ?_
    refine ev_getI gf_RX5_81 dd_X5_grow_28 (zg_10_0 (zg_5_0 hx0)) (by decide) ?_
    refine ev_icmp_ge 119 dd_X5_grow_31 (by decide) ?_ ?_
    · refine ev_lv (lv' := []) [] rfl ?_
      exact hK119 _
    · refine ev_iload_n dd_X5_grow_34 2 rfl ?_
      refine ev_iconst (v := 1) dd_X5_grow_35 (by decide) ?_
      refine ev_iadd dd_X5_grow_36 ?_
      refine ev_topi (fun v1 => ?_)
      refine ev_istore_n (i := 3) (lv' := [(0, .ref (G.2.1 + x0)), (1, .int x1), (2, .int x2), (3, .int v1)]) [1, 2, 3, 0] dd_X5_grow_37 rfl (by decide) rfl ?_
      refine ct_X5_grow_L38 l hl G D R hR x0 hx0 x1 x2 _ (fun M7 => ?_) zN _ _
      refine ev_iinc (j := 2) (v := 1) (lv' := [(0, .ref (G.2.1 + x0)), (1, .int x1), (2, .int (x2 + 1))]) [1, 2, 0] dd_X5_grow_113 rfl (by decide) (by decide) rfl ?_
      refine ev_goto 20 dd_X5_grow_116 (by decide) ?_
      exact ih _ _
set_option maxHeartbeats 1000000 in
set_option maxRecDepth 20000 in
theorem ct_X5_grow (l : Launch) (hl : l.stackTraces = false) (G : zG) (D : Nat) (R : Nat → Int32 → zM → zO) (hR : ∀ (t : Nat) (ht : zsh t = 5) (a1 : Int32) (M : zM), zMt l G Y_X5_grow D [.ref (G.2.1 + t), .int a1] M (R t a1 M)) (t : Nat) (ht : zsh t = 5) (a1 : Int32) (M : zM) : zMt l G Y_X5_grow (D + 12) [.ref (G.2.1 + t), .int a1] M (F_X5_grow R t a1 M) := by
  refine zMt_of (by decide +kernel) (Nat.le_of_ble_eq_true rfl) ?_
  show zEv l G Y_X5_grow (D + 12) 0 0 [(0, .ref (G.2.1 + t)), (1, .int a1)] [] M (zjo (fun  (M9 : zM) => zbV (F_X5_take t M9) (fun M10 => zV M10)) (fun (k1 : zM → zO) => zit ((M t 8) ≤ a1) (k1 M) (zit (a1 < 3) (F_X5_grow_L20 R t a1 (fun  (M8 : zM) => zV M8) zN 0 M) (k1 M))))
  refine ev_iload_n dd_X5_grow_0 1 rfl ?_
  refine ev_aload_n dd_X5_grow_1 0 rfl ?_
  refine ev_getI gf_RX5_28 dd_X5_grow_2 ht (by decide) ?_
  refine ev_jo (fun (k1 : zM → zO) => ∀  (M9 : zM), zEv l G Y_X5_grow (D + 12) 0 13 [(0, .ref (G.2.1 + t))] [] M9 (k1 M9)) ?_ (fun k1 hk1 => ?_)
  · intro M9
    refine ev_aload_n dd_X5_grow_13 0 rfl ?_
    refine ev_lv (lv' := []) [] rfl ?_
    refine ev_callVV (As := []) cl_RX5_74 (ct_X5_take l hl G t ht M9) dd_X5_grow_14 ht (by omega) (Nat.le_of_ble_eq_true rfl) (Nat.le_of_ble_eq_true rfl) rfl rfl (fun M10 => ?_)
    exact ev_vret dd_X5_grow_17 rfl (Nat.le_of_ble_eq_true rfl) rfl
  · refine ev_icmp_ge 13 dd_X5_grow_5 (by decide) ?_ ?_
    · refine ev_lv (lv' := [(0, .ref (G.2.1 + t))]) [0] rfl ?_
      exact hk1 _
    · refine ev_iload_n dd_X5_grow_8 1 rfl ?_
      refine ev_iconst (v := 3) dd_X5_grow_9 (by decide) ?_
      refine ev_icmp_lt 18 dd_X5_grow_10 (by decide) ?_ ?_
      · refine ev_iconst (v := 0) dd_X5_grow_18 (by decide) ?_
        refine ev_istore_n (i := 2) (lv' := [(0, .ref (G.2.1 + t)), (1, .int a1), (2, .int 0)]) [1, 2, 0] dd_X5_grow_19 rfl (by decide) rfl ?_
        refine ct_X5_grow_L20 l hl G D R hR t ht a1 _ (fun M8 => ?_) zN _ _
        exact ev_vret dd_X5_grow_119 rfl (Nat.le_of_ble_eq_true rfl) rfl
      · refine ev_lv (lv' := [(0, .ref (G.2.1 + t))]) [0] rfl ?_
        exact hk1 _
set_option maxHeartbeats 1000000 in
set_option maxRecDepth 20000 in
theorem cr_X5_grow (l : Launch) (hl : l.stackTraces = false) (G : zG) : ∀ (n : Nat) (t : Nat) (ht : zsh t = 5) (a1 : Int32) (M : zM), zMt l G Y_X5_grow (n * 12) [.ref (G.2.1 + t), .int a1] M (Fr_X5_grow n t a1 M) := by
  intro n
  induction n with
  | zero => intro t ht a1 M r M' h; cases h
  | succ n ih =>
    intro t ht a1 M
    rw [Nat.succ_mul]
    exact ct_X5_grow l hl G (n * 12) (Fr_X5_grow n) ih t ht a1 M

/-! X5_find -/
theorem dd_X5_find_0 : decode Y_X5_find.2.1 0 = .ok (.aload_n 0, 1) := by decide +kernel
theorem dd_X5_find_1 : decode Y_X5_find.2.1 1 = .ok (.getfield 35, 3) := by decide +kernel
theorem dd_X5_find_4 : decode Y_X5_find.2.1 4 = .ok (.iload_n 3, 1) := by decide +kernel
theorem dd_X5_find_5 : decode Y_X5_find.2.1 5 = .ok (.if_icmp .ne 23, 3) := by decide +kernel
theorem dd_X5_find_8 : decode Y_X5_find.2.1 8 = .ok (.aload_n 0, 1) := by decide +kernel
theorem dd_X5_find_9 : decode Y_X5_find.2.1 9 = .ok (.getfield 28, 3) := by decide +kernel
theorem dd_X5_find_12 : decode Y_X5_find.2.1 12 = .ok (.iload_n 1, 1) := by decide +kernel
theorem dd_X5_find_13 : decode Y_X5_find.2.1 13 = .ok (.if_icmp .ne 15, 3) := by decide +kernel
theorem dd_X5_find_16 : decode Y_X5_find.2.1 16 = .ok (.aload_n 0, 1) := by decide +kernel
theorem dd_X5_find_17 : decode Y_X5_find.2.1 17 = .ok (.getfield 31, 3) := by decide +kernel
theorem dd_X5_find_20 : decode Y_X5_find.2.1 20 = .ok (.ifCond .ne 7, 3) := by decide +kernel
theorem dd_X5_find_23 : decode Y_X5_find.2.1 23 = .ok (.iload_n 2, 1) := by decide +kernel
theorem dd_X5_find_24 : decode Y_X5_find.2.1 24 = .ok (.ifCond .ne 4, 3) := by decide +kernel
theorem dd_X5_find_27 : decode Y_X5_find.2.1 27 = .ok (.return_, 1) := by decide +kernel
theorem dd_X5_find_28 : decode Y_X5_find.2.1 28 = .ok (.aload_n 0, 1) := by decide +kernel
theorem dd_X5_find_29 : decode Y_X5_find.2.1 29 = .ok (.iload_n 3, 1) := by decide +kernel
theorem dd_X5_find_30 : decode Y_X5_find.2.1 30 = .ok (.putfield 35, 3) := by decide +kernel
theorem dd_X5_find_33 : decode Y_X5_find.2.1 33 = .ok (.aload_n 0, 1) := by decide +kernel
theorem dd_X5_find_34 : decode Y_X5_find.2.1 34 = .ok (.iload_n 1, 1) := by decide +kernel
theorem dd_X5_find_35 : decode Y_X5_find.2.1 35 = .ok (.putfield 28, 3) := by decide +kernel
theorem dd_X5_find_38 : decode Y_X5_find.2.1 38 = .ok (.aload_n 0, 1) := by decide +kernel
theorem dd_X5_find_39 : decode Y_X5_find.2.1 39 = .ok (.iload_n 2, 1) := by decide +kernel
theorem dd_X5_find_40 : decode Y_X5_find.2.1 40 = .ok (.putfield 31, 3) := by decide +kernel
theorem dd_X5_find_43 : decode Y_X5_find.2.1 43 = .ok (.aload_n 0, 1) := by decide +kernel
theorem dd_X5_find_44 : decode Y_X5_find.2.1 44 = .ok (.iconst 0, 1) := by decide +kernel
theorem dd_X5_find_45 : decode Y_X5_find.2.1 45 = .ok (.putfield 24, 3) := by decide +kernel
theorem dd_X5_find_48 : decode Y_X5_find.2.1 48 = .ok (.aload_n 0, 1) := by decide +kernel
theorem dd_X5_find_49 : decode Y_X5_find.2.1 49 = .ok (.getfield 42, 3) := by decide +kernel
theorem dd_X5_find_52 : decode Y_X5_find.2.1 52 = .ok (.iload_n 3, 1) := by decide +kernel
theorem dd_X5_find_53 : decode Y_X5_find.2.1 53 = .ok (.invokevirtual 50, 3) := by decide +kernel
theorem dd_X5_find_56 : decode Y_X5_find.2.1 56 = .ok (.aload_n 0, 1) := by decide +kernel
theorem dd_X5_find_57 : decode Y_X5_find.2.1 57 = .ok (.getfield 21, 3) := by decide +kernel
theorem dd_X5_find_60 : decode Y_X5_find.2.1 60 = .ok (.iconst 0, 1) := by decide +kernel
theorem dd_X5_find_61 : decode Y_X5_find.2.1 61 = .ok (.invokestatic 56, 3) := by decide +kernel
theorem dd_X5_find_64 : decode Y_X5_find.2.1 64 = .ok (.aload_n 0, 1) := by decide +kernel
theorem dd_X5_find_65 : decode Y_X5_find.2.1 65 = .ok (.getfield 38, 3) := by decide +kernel
theorem dd_X5_find_68 : decode Y_X5_find.2.1 68 = .ok (.getfield 62, 3) := by decide +kernel
theorem dd_X5_find_71 : decode Y_X5_find.2.1 71 = .ok (.iconst 0, 1) := by decide +kernel
theorem dd_X5_find_72 : decode Y_X5_find.2.1 72 = .ok (.aload_n 0, 1) := by decide +kernel
theorem dd_X5_find_73 : decode Y_X5_find.2.1 73 = .ok (.getfield 9, 3) := by decide +kernel
theorem dd_X5_find_76 : decode Y_X5_find.2.1 76 = .ok (.iconst 0, 1) := by decide +kernel
theorem dd_X5_find_77 : decode Y_X5_find.2.1 77 = .ok (.bipush 8, 2) := by decide +kernel
theorem dd_X5_find_79 : decode Y_X5_find.2.1 79 = .ok (.invokestatic 65, 3) := by decide +kernel
theorem dd_X5_find_82 : decode Y_X5_find.2.1 82 = .ok (.aload_n 0, 1) := by decide +kernel
theorem dd_X5_find_83 : decode Y_X5_find.2.1 83 = .ok (.iconst 0, 1) := by decide +kernel
theorem dd_X5_find_84 : decode Y_X5_find.2.1 84 = .ok (.invokevirtual 71, 3) := by decide +kernel
theorem dd_X5_find_87 : decode Y_X5_find.2.1 87 = .ok (.return_, 1) := by decide +kernel
def F_X5_find (t : Nat) (a1 : Int32) (a2 : Int32) (a3 : Int32) (M : zM) : zO := zjo (fun  (M2 : zM) => zst (zup M2 t 10 a3) (fun M3 => zst (zup M3 t 8 a1) (fun M4 => zck (zbo a2) (zst (zup M4 t 9 a2) (fun M5 => zst (zup M5 t 7 0) (fun M6 => zbV (F_X2_renew (zgr t 1) a3 M6) (fun M7 => zbV (F_J7_fill_53178 (zgr t 6) 0 M7) (fun M8 => zck (zcpk 0 0 8 8 8) (zst (zupA M8 (zgr t 3) (va_cpy (M8 (zgr (zgr t 0) 1)) (M8 (zgr t 3)) (zix 0) (zix 0) (zix 8))) (fun M9 => zbV (Fr_X5_grow 9 t 0 M9) (fun M10 => zV M10))))))))))) (fun (k1 : zM → zO) => zit ((M t 10) = a3) (zit ((M t 8) = a1) (zjo (fun  (M1 : zM) => zV M1) (fun (k2 : zM → zO) => zit ((M t 9) = 0) (zit (a2 = 0) (k2 M) (k1 M)) (k2 M))) (k1 M)) (k1 M))
set_option maxHeartbeats 1000000 in
set_option maxRecDepth 20000 in
theorem ct_X5_find (l : Launch) (hl : l.stackTraces = false) (G : zG) (t : Nat) (ht : zsh t = 5) (a1 : Int32) (a2 : Int32) (a3 : Int32) (M : zM) : zMt l G Y_X5_find 109 [.ref (G.2.1 + t), .int a1, .int a2, .int a3] M (F_X5_find t a1 a2 a3 M) := by
  refine zMt_of (by decide +kernel) (Nat.le_of_ble_eq_true rfl) ?_
  show zEv l G Y_X5_find 109 0 0 [(0, .ref (G.2.1 + t)), (1, .int a1), (2, .int a2), (3, .int a3)] [] M (zjo (fun  (M2 : zM) => zst (zup M2 t 10 a3) (fun M3 => zst (zup M3 t 8 a1) (fun M4 => zck (zbo a2) (zst (zup M4 t 9 a2) (fun M5 => zst (zup M5 t 7 0) (fun M6 => zbV (F_X2_renew (zgr t 1) a3 M6) (fun M7 => zbV (F_J7_fill_53178 (zgr t 6) 0 M7) (fun M8 => zck (zcpk 0 0 8 8 8) (zst (zupA M8 (zgr t 3) (va_cpy (M8 (zgr (zgr t 0) 1)) (M8 (zgr t 3)) (zix 0) (zix 0) (zix 8))) (fun M9 => zbV (Fr_X5_grow 9 t 0 M9) (fun M10 => zV M10))))))))))) (fun (k1 : zM → zO) => zit ((M t 10) = a3) (zit ((M t 8) = a1) (zjo (fun  (M1 : zM) => zV M1) (fun (k2 : zM → zO) => zit ((M t 9) = 0) (zit (a2 = 0) (k2 M) (k1 M)) (k2 M))) (k1 M)) (k1 M)))
  refine ev_aload_n dd_X5_find_0 0 rfl ?_
  refine ev_getI gf_RX5_35 dd_X5_find_1 ht (by decide) ?_
  refine ev_iload_n dd_X5_find_4 3 rfl ?_
  refine ev_jo (fun (k1 : zM → zO) => ∀  (M2 : zM), zEv l G Y_X5_find 109 0 28 [(0, .ref (G.2.1 + t)), (1, .int a1), (2, .int a2), (3, .int a3)] [] M2 (k1 M2)) ?_ (fun k1 hk1 => ?_)
  · intro M2
    refine ev_aload_n dd_X5_find_28 0 rfl ?_
    refine ev_iload_n dd_X5_find_29 3 rfl ?_
    refine ev_putI gw_RX5_35 dd_X5_find_30 ht (by decide) ?_
    refine ev_st (fun M3 => ?_)
    refine ev_aload_n dd_X5_find_33 0 rfl ?_
    refine ev_iload_n dd_X5_find_34 1 rfl ?_
    refine ev_lv (lv' := [(0, .ref (G.2.1 + t)), (2, .int a2), (3, .int a3)]) [0, 2, 3] rfl ?_
    refine ev_putI gw_RX5_28 dd_X5_find_35 ht (by decide) ?_
    refine ev_st (fun M4 => ?_)
    refine ev_aload_n dd_X5_find_38 0 rfl ?_
    refine ev_iload_n dd_X5_find_39 1 rfl ?_
    refine ev_lv (lv' := [(0, .ref (G.2.1 + t)), (3, .int a3)]) [0, 2] rfl ?_
    refine ev_putZ gw_RX5_31 dd_X5_find_40 ht (by decide) ?_
    refine ev_st (fun M5 => ?_)
    refine ev_aload_n dd_X5_find_43 0 rfl ?_
    refine ev_iconst (v := 0) dd_X5_find_44 (by decide) ?_
    refine ev_putI gw_RX5_24 dd_X5_find_45 ht (by decide) ?_
    refine ev_st (fun M6 => ?_)
    refine ev_aload_n dd_X5_find_48 0 rfl ?_
    refine ev_getR gf_RX5_42 dd_X5_find_49 ht (by decide) ?_
    refine ev_iload_n dd_X5_find_52 1 rfl ?_
    refine ev_lv (lv' := [(0, .ref (G.2.1 + t))]) [0] rfl ?_
    refine ev_callVV (As := [.int a3]) cl_RX5_50 (ct_X2_renew l hl G (zgr t 1) (zg_5_1 ht) a3 M6) dd_X5_find_53 (zg_5_1 ht) (by decide) (Nat.le_of_ble_eq_true rfl) (Nat.le_of_ble_eq_true rfl) rfl rfl (fun M7 => ?_)
    refine ev_aload_n dd_X5_find_56 0 rfl ?_
    refine ev_getR gf_RX5_21 dd_X5_find_57 ht (by decide) ?_
    refine ev_iconst (v := 0) dd_X5_find_60 (by decide) ?_
    refine ev_callSV (As := [.ref (G.2.1 + (zgr t 6)), .int 0]) cl_RX5_56 (ct_J7_fill_53178 l hl G (zgr t 6) ((zg_5_6 ht).1) 0 M7) dd_X5_find_61 (by decide) (Nat.le_of_ble_eq_true rfl) (Nat.le_of_ble_eq_true rfl) rfl rfl (fun M8 => ?_)
    refine ev_aload_n dd_X5_find_64 0 rfl ?_
    refine ev_getR gf_RX5_38 dd_X5_find_65 ht (by decide) ?_
    refine ev_getR gf_RX5_62 dd_X5_find_68 (zg_5_0 ht) (by decide) ?_
    refine ev_iconst (v := 0) dd_X5_find_71 (by decide) ?_
    refine ev_aload_n dd_X5_find_72 0 rfl ?_
    refine ev_getR gf_RX5_9 dd_X5_find_73 ht (by decide) ?_
    refine ev_iconst (v := 0) dd_X5_find_76 (by decide) ?_
    refine ev_bipush (v := 8) dd_X5_find_77 (by decide) ?_
    refine ev_copyi cw_RX5_65 dd_X5_find_79 ((zg_10_1 (zg_5_0 ht)).1) ((zg_10_1 (zg_5_0 ht)).2) ((zg_5_3 ht).1) ((zg_5_3 ht).2) (Nat.le_of_ble_eq_true rfl) ?_
    refine ev_st (fun M9 => ?_)
    refine ev_aload_n dd_X5_find_82 0 rfl ?_
    refine ev_lv (lv' := []) [] rfl ?_
    refine ev_iconst (v := 0) dd_X5_find_83 (by decide) ?_
    refine ev_callVV (As := [.int 0]) cl_RX5_71 (cr_X5_grow l hl G 9 t ht 0 M9) dd_X5_find_84 ht (by decide) (Nat.le_of_ble_eq_true rfl) (Nat.le_of_ble_eq_true rfl) rfl rfl (fun M10 => ?_)
    exact ev_vret dd_X5_find_87 rfl (Nat.le_of_ble_eq_true rfl) rfl
  · refine ev_icmp_ne 28 dd_X5_find_5 (by decide) ?_ ?_
    · exact hk1 _
    · refine ev_aload_n dd_X5_find_8 0 rfl ?_
      refine ev_getI gf_RX5_28 dd_X5_find_9 ht (by decide) ?_
      refine ev_iload_n dd_X5_find_12 1 rfl ?_
      refine ev_icmp_ne 28 dd_X5_find_13 (by decide) ?_ ?_
      · exact hk1 _
      · refine ev_aload_n dd_X5_find_16 0 rfl ?_
        refine ev_getI gf_RX5_31 dd_X5_find_17 ht (by decide) ?_
        refine ev_jo (fun (k2 : zM → zO) => ∀  (M1 : zM), zEv l G Y_X5_find 109 0 27 [] [] M1 (k2 M1)) ?_ (fun k2 hk2 => ?_)
        · intro M1
          exact ev_vret dd_X5_find_27 rfl (Nat.le_of_ble_eq_true rfl) rfl
        · refine ev_if_ne 27 dd_X5_find_20 (by decide) ?_ ?_
          · refine ev_lv (lv' := []) [] rfl ?_
            exact hk2 _
          · refine ev_iload_n dd_X5_find_23 2 rfl ?_
            refine ev_if_ne 28 dd_X5_find_24 (by decide) ?_ ?_
            · exact hk1 _
            · refine ev_lv (lv' := []) [] rfl ?_
              exact hk2 _
/-! X5_lookNext -/
theorem dd_X5_lookNext_0 : decode Y_X5_lookNext.2.1 0 = .ok (.iconst (-1), 1) := by decide +kernel
theorem dd_X5_lookNext_1 : decode Y_X5_lookNext.2.1 1 = .ok (.istore_n 1, 1) := by decide +kernel
theorem dd_X5_lookNext_2 : decode Y_X5_lookNext.2.1 2 = .ok (.iconst 0, 1) := by decide +kernel
theorem dd_X5_lookNext_3 : decode Y_X5_lookNext.2.1 3 = .ok (.istore_n 2, 1) := by decide +kernel
theorem dd_X5_lookNext_4 : decode Y_X5_lookNext.2.1 4 = .ok (.iconst 0, 1) := by decide +kernel
theorem dd_X5_lookNext_5 : decode Y_X5_lookNext.2.1 5 = .ok (.istore_n 3, 1) := by decide +kernel
theorem dd_X5_lookNext_6 : decode Y_X5_lookNext.2.1 6 = .ok (.iload_n 3, 1) := by decide +kernel
theorem dd_X5_lookNext_7 : decode Y_X5_lookNext.2.1 7 = .ok (.aload_n 0, 1) := by decide +kernel
theorem dd_X5_lookNext_8 : decode Y_X5_lookNext.2.1 8 = .ok (.getfield 38, 3) := by decide +kernel
theorem dd_X5_lookNext_11 : decode Y_X5_lookNext.2.1 11 = .ok (.getfield 77, 3) := by decide +kernel
theorem dd_X5_lookNext_14 : decode Y_X5_lookNext.2.1 14 = .ok (.getfield 81, 3) := by decide +kernel
theorem dd_X5_lookNext_17 : decode Y_X5_lookNext.2.1 17 = .ok (.if_icmp .ge 78, 3) := by decide +kernel
theorem dd_X5_lookNext_20 : decode Y_X5_lookNext.2.1 20 = .ok (.aload_n 0, 1) := by decide +kernel
theorem dd_X5_lookNext_21 : decode Y_X5_lookNext.2.1 21 = .ok (.getfield 24, 3) := by decide +kernel
theorem dd_X5_lookNext_24 : decode Y_X5_lookNext.2.1 24 = .ok (.ifCond .le 71, 3) := by decide +kernel
theorem dd_X5_lookNext_27 : decode Y_X5_lookNext.2.1 27 = .ok (.iconst 0, 1) := by decide +kernel
theorem dd_X5_lookNext_28 : decode Y_X5_lookNext.2.1 28 = .ok (.istore 4, 2) := by decide +kernel
theorem dd_X5_lookNext_30 : decode Y_X5_lookNext.2.1 30 = .ok (.iconst 0, 1) := by decide +kernel
theorem dd_X5_lookNext_31 : decode Y_X5_lookNext.2.1 31 = .ok (.istore 5, 2) := by decide +kernel
theorem dd_X5_lookNext_33 : decode Y_X5_lookNext.2.1 33 = .ok (.iload 5, 2) := by decide +kernel
theorem dd_X5_lookNext_35 : decode Y_X5_lookNext.2.1 35 = .ok (.aload_n 0, 1) := by decide +kernel
theorem dd_X5_lookNext_36 : decode Y_X5_lookNext.2.1 36 = .ok (.getfield 38, 3) := by decide +kernel
theorem dd_X5_lookNext_39 : decode Y_X5_lookNext.2.1 39 = .ok (.getfield 77, 3) := by decide +kernel
theorem dd_X5_lookNext_42 : decode Y_X5_lookNext.2.1 42 = .ok (.getfield 81, 3) := by decide +kernel
theorem dd_X5_lookNext_45 : decode Y_X5_lookNext.2.1 45 = .ok (.if_icmp .ge 28, 3) := by decide +kernel
theorem dd_X5_lookNext_48 : decode Y_X5_lookNext.2.1 48 = .ok (.iload 4, 2) := by decide +kernel
theorem dd_X5_lookNext_50 : decode Y_X5_lookNext.2.1 50 = .ok (.aload_n 0, 1) := by decide +kernel
theorem dd_X5_lookNext_51 : decode Y_X5_lookNext.2.1 51 = .ok (.getfield 21, 3) := by decide +kernel
theorem dd_X5_lookNext_54 : decode Y_X5_lookNext.2.1 54 = .ok (.iload_n 3, 1) := by decide +kernel
theorem dd_X5_lookNext_55 : decode Y_X5_lookNext.2.1 55 = .ok (.bipush 8, 2) := by decide +kernel
theorem dd_X5_lookNext_57 : decode Y_X5_lookNext.2.1 57 = .ok (.imul, 1) := by decide +kernel
theorem dd_X5_lookNext_58 : decode Y_X5_lookNext.2.1 58 = .ok (.iload 5, 2) := by decide +kernel
theorem dd_X5_lookNext_60 : decode Y_X5_lookNext.2.1 60 = .ok (.iadd, 1) := by decide +kernel
theorem dd_X5_lookNext_61 : decode Y_X5_lookNext.2.1 61 = .ok (.iaload, 1) := by decide +kernel
theorem dd_X5_lookNext_62 : decode Y_X5_lookNext.2.1 62 = .ok (.invokestatic 100, 3) := by decide +kernel
theorem dd_X5_lookNext_65 : decode Y_X5_lookNext.2.1 65 = .ok (.istore 4, 2) := by decide +kernel
theorem dd_X5_lookNext_67 : decode Y_X5_lookNext.2.1 67 = .ok (.iinc 5 1, 3) := by decide +kernel
theorem dd_X5_lookNext_70 : decode Y_X5_lookNext.2.1 70 = .ok (.goto (-37), 3) := by decide +kernel
theorem dd_X5_lookNext_73 : decode Y_X5_lookNext.2.1 73 = .ok (.iload_n 1, 1) := by decide +kernel
theorem dd_X5_lookNext_74 : decode Y_X5_lookNext.2.1 74 = .ok (.iconst (-1), 1) := by decide +kernel
theorem dd_X5_lookNext_75 : decode Y_X5_lookNext.2.1 75 = .ok (.if_icmp .eq 9, 3) := by decide +kernel
theorem dd_X5_lookNext_78 : decode Y_X5_lookNext.2.1 78 = .ok (.iload 4, 2) := by decide +kernel
theorem dd_X5_lookNext_80 : decode Y_X5_lookNext.2.1 80 = .ok (.iload_n 2, 1) := by decide +kernel
theorem dd_X5_lookNext_81 : decode Y_X5_lookNext.2.1 81 = .ok (.if_icmp .ge 8, 3) := by decide +kernel
theorem dd_X5_lookNext_84 : decode Y_X5_lookNext.2.1 84 = .ok (.iload_n 3, 1) := by decide +kernel
theorem dd_X5_lookNext_85 : decode Y_X5_lookNext.2.1 85 = .ok (.istore_n 1, 1) := by decide +kernel
theorem dd_X5_lookNext_86 : decode Y_X5_lookNext.2.1 86 = .ok (.iload 4, 2) := by decide +kernel
theorem dd_X5_lookNext_88 : decode Y_X5_lookNext.2.1 88 = .ok (.istore_n 2, 1) := by decide +kernel
theorem dd_X5_lookNext_89 : decode Y_X5_lookNext.2.1 89 = .ok (.iinc 3 1, 3) := by decide +kernel
theorem dd_X5_lookNext_92 : decode Y_X5_lookNext.2.1 92 = .ok (.goto (-86), 3) := by decide +kernel
theorem dd_X5_lookNext_95 : decode Y_X5_lookNext.2.1 95 = .ok (.iload_n 1, 1) := by decide +kernel
theorem dd_X5_lookNext_96 : decode Y_X5_lookNext.2.1 96 = .ok (.ireturn, 1) := by decide +kernel
def F_X5_lookNext_L33 (x0 : Nat) (x1 : Int32) (x2 : Int32) (x3 : Int32) (K73 : Int32 → zM → zO) : Nat → Int32 → Int32 → zM → zO
  | 0, _, _, _ => none
  | n + 1, x4, x5, M => zit ((M (zgr (zgr x0 0) 0) 0) ≤ x5) (K73 x4 M) (zck (zin ((x3 * 8) + x5) 64) (zlt (if x4 < (M (zgr x0 6) (zix ((x3 * 8) + x5))) then M (zgr x0 6) (zix ((x3 * 8) + x5)) else x4) (fun v1 => F_X5_lookNext_L33 x0 x1 x2 x3 K73 n v1 (x5 + 1) M)))
def F_X5_lookNext_L6 (x0 : Nat) (K95 : Int32 → zM → zO) : Nat → Int32 → Int32 → Int32 → zM → zO
  | 0, _, _, _, _ => none
  | n + 1, x1, x2, x3, M => zit ((M (zgr (zgr x0 0) 0) 0) ≤ x3) (K95 x1 M) (zit ((M x0 7) ≤ 0) (K95 x1 M) (F_X5_lookNext_L33 x0 x1 x2 x3 (fun (y1 : Int32) (M1 : zM) => zjo (fun (w1 : Int32) (w2 : Int32) (M3 : zM) => F_X5_lookNext_L6 x0 K95 n w1 w2 (x3 + 1) M3) (fun (k1 : Int32 → Int32 → zM → zO) => zjo (fun  (M2 : zM) => k1 x3 y1 M2) (fun (k2 : zM → zO) => zit (x1 = (-1)) (k2 M1) (zit (x2 ≤ y1) (k1 x1 x2 M1) (k2 M1))))) zN 0 0 M))
def F_X5_lookNext (t : Nat) (M : zM) : zO := F_X5_lookNext_L6 t (fun (y2 : Int32) (M4 : zM) => zI y2 M4) zN (-1) 0 0 M
set_option maxHeartbeats 1000000 in
set_option maxRecDepth 20000 in
theorem ct_X5_lookNext_L33 (l : Launch) (hl : l.stackTraces = false) (G : zG) (x0 : Nat) (hx0 : zsh x0 = 5) (x1 : Int32) (x2 : Int32) (x3 : Int32) (K73 : Int32 → zM → zO) (hK73 : ∀ (x4 : Int32) (M : zM), zEv l G Y_X5_lookNext 8 0 73 [(0, .ref (G.2.1 + x0)), (1, .int x1), (2, .int x2), (3, .int x3), (4, .int x4)] [] M (K73 x4 M)) : ∀ (n : Nat) (x4 : Int32) (x5 : Int32) (M : zM), zEv l G Y_X5_lookNext 8 0 33 [(0, .ref (G.2.1 + x0)), (1, .int x1), (2, .int x2), (3, .int x3), (4, .int x4), (5, .int x5)] [] M (F_X5_lookNext_L33 x0 x1 x2 x3 K73 n x4 x5 M) := by
  intro n
  induction n with
  | zero => intro x4 x5 M; exact ev_none
  | succ n ih =>
    intro x4 x5 M
    show zEv l G Y_X5_lookNext 8 0 33 [(0, .ref (G.2.1 + x0)), (1, .int x1), (2, .int x2), (3, .int x3), (4, .int x4), (5, .int x5)] [] M (zit ((M (zgr (zgr x0 0) 0) 0) ≤ x5) (K73 x4 M) (zck (zin ((x3 * 8) + x5) 64) (zlt (if x4 < (M (zgr x0 6) (zix ((x3 * 8) + x5))) then M (zgr x0 6) (zix ((x3 * 8) + x5)) else x4) (fun v1 => F_X5_lookNext_L33 x0 x1 x2 x3 K73 n v1 (x5 + 1) M))))
    refine ev_iload dd_X5_lookNext_33 5 rfl ?_
    refine ev_aload_n dd_X5_lookNext_35 0 rfl ?_
    refine ev_getR gf_RX5_38 dd_X5_lookNext_36 hx0 (by decide) ?_
    refine ev_getR gf_RX5_77 dd_X5_lookNext_39 (zg_5_0 hx0) (by decide) ?_
    refine ev_getI gf_RX5_81 dd_X5_lookNext_42 (zg_10_0 (zg_5_0 hx0)) (by decide) ?_
    refine ev_icmp_ge 73 dd_X5_lookNext_45 (by decide) ?_ ?_
    · refine ev_lv (lv' := [(0, .ref (G.2.1 + x0)), (1, .int x1), (2, .int x2), (3, .int x3), (4, .int x4)]) [0, 1, 2, 3, 4] rfl ?_
      exact hK73 _ _
    · refine ev_iload dd_X5_lookNext_48 4 rfl ?_
      refine ev_lv (lv' := [(0, .ref (G.2.1 + x0)), (1, .int x1), (2, .int x2), (3, .int x3), (5, .int x5)]) [0, 1, 2, 3, 5] rfl ?_
      refine ev_aload_n dd_X5_lookNext_50 0 rfl ?_
      refine ev_getR gf_RX5_21 dd_X5_lookNext_51 hx0 (by decide) ?_
      refine ev_iload_n dd_X5_lookNext_54 3 rfl ?_
      refine ev_bipush (v := 8) dd_X5_lookNext_55 (by decide) ?_
      refine ev_imul dd_X5_lookNext_57 ?_
      refine ev_iload dd_X5_lookNext_58 4 rfl ?_
      refine ev_iadd dd_X5_lookNext_60 ?_
      refine ev_iald dd_X5_lookNext_61 ((zg_5_6 hx0).1) ((zg_5_6 hx0).2) ?_
      refine ev_mmax mw_RX5_100 dd_X5_lookNext_62 (Nat.le_of_ble_eq_true rfl) (Nat.le_of_ble_eq_true rfl) ?_
      refine ev_topi (fun v1 => ?_)
      refine ev_istore (i := 4) (lv' := [(0, .ref (G.2.1 + x0)), (1, .int x1), (2, .int x2), (3, .int x3), (4, .int v1), (5, .int x5)]) [1, 2, 3, 4, 0, 5] dd_X5_lookNext_65 (by decide) rfl ?_
      refine ev_iinc (j := 5) (v := 1) (lv' := [(0, .ref (G.2.1 + x0)), (1, .int x1), (2, .int x2), (3, .int x3), (4, .int v1), (5, .int (x5 + 1))]) [1, 2, 3, 4, 5, 0] dd_X5_lookNext_67 rfl (by decide) (by decide) rfl ?_
      refine ev_goto 33 dd_X5_lookNext_70 (by decide) ?_
      exact ih _ _ _
set_option maxHeartbeats 1000000 in
set_option maxRecDepth 20000 in
theorem ct_X5_lookNext_L6 (l : Launch) (hl : l.stackTraces = false) (G : zG) (x0 : Nat) (hx0 : zsh x0 = 5) (K95 : Int32 → zM → zO) (hK95 : ∀ (x1 : Int32) (M : zM), zEv l G Y_X5_lookNext 8 0 95 [(1, .int x1)] [] M (K95 x1 M)) : ∀ (n : Nat) (x1 : Int32) (x2 : Int32) (x3 : Int32) (M : zM), zEv l G Y_X5_lookNext 8 0 6 [(0, .ref (G.2.1 + x0)), (1, .int x1), (2, .int x2), (3, .int x3)] [] M (F_X5_lookNext_L6 x0 K95 n x1 x2 x3 M) := by
  intro n
  induction n with
  | zero => intro x1 x2 x3 M; exact ev_none
  | succ n ih =>
    intro x1 x2 x3 M
    show zEv l G Y_X5_lookNext 8 0 6 [(0, .ref (G.2.1 + x0)), (1, .int x1), (2, .int x2), (3, .int x3)] [] M (zit ((M (zgr (zgr x0 0) 0) 0) ≤ x3) (K95 x1 M) (zit ((M x0 7) ≤ 0) (K95 x1 M) (F_X5_lookNext_L33 x0 x1 x2 x3 (fun (y1 : Int32) (M1 : zM) => zjo (fun (w1 : Int32) (w2 : Int32) (M3 : zM) => F_X5_lookNext_L6 x0 K95 n w1 w2 (x3 + 1) M3) (fun (k1 : Int32 → Int32 → zM → zO) => zjo (fun  (M2 : zM) => k1 x3 y1 M2) (fun (k2 : zM → zO) => zit (x1 = (-1)) (k2 M1) (zit (x2 ≤ y1) (k1 x1 x2 M1) (k2 M1))))) zN 0 0 M)))
    refine ev_iload_n dd_X5_lookNext_6 3 rfl ?_
    refine ev_aload_n dd_X5_lookNext_7 0 rfl ?_
    refine ev_getR gf_RX5_38 dd_X5_lookNext_8 hx0 (by decide) ?_
    refine ev_getR gf_RX5_77 dd_X5_lookNext_11 (zg_5_0 hx0) (by decide) ?_
    refine ev_getI gf_RX5_81 dd_X5_lookNext_14 (zg_10_0 (zg_5_0 hx0)) (by decide) ?_
    refine ev_icmp_ge 95 dd_X5_lookNext_17 (by decide) ?_ ?_
    · refine ev_lv (lv' := [(1, .int x1)]) [1] rfl ?_
      exact hK95 _ _
    · refine ev_aload_n dd_X5_lookNext_20 0 rfl ?_
      refine ev_getI gf_RX5_24 dd_X5_lookNext_21 hx0 (by decide) ?_
      refine ev_if_le 95 dd_X5_lookNext_24 (by decide) ?_ ?_
      · refine ev_lv (lv' := [(1, .int x1)]) [1] rfl ?_
        exact hK95 _ _
      · refine ev_iconst (v := 0) dd_X5_lookNext_27 (by decide) ?_
        refine ev_istore (i := 4) (lv' := [(0, .ref (G.2.1 + x0)), (1, .int x1), (2, .int x2), (3, .int x3), (4, .int 0)]) [1, 2, 3, 4, 0] dd_X5_lookNext_28 (by decide) rfl ?_
        refine ev_iconst (v := 0) dd_X5_lookNext_30 (by decide) ?_
        refine ev_istore (i := 5) (lv' := [(0, .ref (G.2.1 + x0)), (1, .int x1), (2, .int x2), (3, .int x3), (4, .int 0), (5, .int 0)]) [1, 2, 3, 4, 5, 0] dd_X5_lookNext_31 (by decide) rfl ?_
        refine ct_X5_lookNext_L33 l hl G x0 hx0 x1 x2 x3 _ (fun y1 M1 => ?_) zN _ _ _
        refine ev_iload_n dd_X5_lookNext_73 1 rfl ?_
        refine ev_iconst (v := (-1)) dd_X5_lookNext_74 (by decide) ?_
        refine ev_jo (fun (k1 : Int32 → Int32 → zM → zO) => ∀ (w1 : Int32) (w2 : Int32) (M3 : zM), zEv l G Y_X5_lookNext 8 0 89 [(0, .ref (G.2.1 + x0)), (1, .int w1), (2, .int w2), (3, .int x3)] [] M3 (k1 w1 w2 M3)) ?_ (fun k1 hk1 => ?_)
        · intro w1 w2 M3
          refine ev_iinc (j := 3) (v := 1) (lv' := [(0, .ref (G.2.1 + x0)), (1, .int w1), (2, .int w2), (3, .int (x3 + 1))]) [1, 2, 3, 0] dd_X5_lookNext_89 rfl (by decide) (by decide) rfl ?_
          refine ev_goto 6 dd_X5_lookNext_92 (by decide) ?_
          exact ih _ _ _ _
        · refine ev_jo (fun (k2 : zM → zO) => ∀  (M2 : zM), zEv l G Y_X5_lookNext 8 0 84 [(0, .ref (G.2.1 + x0)), (3, .int x3), (4, .int y1)] [] M2 (k2 M2)) ?_ (fun k2 hk2 => ?_)
          · intro M2
            refine ev_iload_n dd_X5_lookNext_84 1 rfl ?_
            refine ev_istore_n (i := 1) (lv' := [(0, .ref (G.2.1 + x0)), (1, .int x3), (3, .int x3), (4, .int y1)]) [1, 0, 2, 3] dd_X5_lookNext_85 rfl (by decide) rfl ?_
            refine ev_iload dd_X5_lookNext_86 3 rfl ?_
            refine ev_lv (lv' := [(0, .ref (G.2.1 + x0)), (1, .int x3), (3, .int x3)]) [0, 1, 2] rfl ?_
            refine ev_istore_n (i := 2) (lv' := [(0, .ref (G.2.1 + x0)), (1, .int x3), (2, .int y1), (3, .int x3)]) [1, 2, 0, 3] dd_X5_lookNext_88 rfl (by decide) rfl ?_
            exact hk1 _ _ _
          · refine ev_icmp_eq 84 dd_X5_lookNext_75 (by decide) ?_ ?_
            · refine ev_lv (lv' := [(0, .ref (G.2.1 + x0)), (3, .int x3), (4, .int y1)]) [0, 3, 4] rfl ?_
              exact hk2 _
            · refine ev_iload dd_X5_lookNext_78 4 rfl ?_
              refine ev_iload_n dd_X5_lookNext_80 2 rfl ?_
              refine ev_icmp_ge 89 dd_X5_lookNext_81 (by decide) ?_ ?_
              · refine ev_lv (lv' := [(0, .ref (G.2.1 + x0)), (1, .int x1), (2, .int x2), (3, .int x3)]) [0, 1, 2, 3] rfl ?_
                exact hk1 _ _ _
              · refine ev_lv (lv' := [(0, .ref (G.2.1 + x0)), (3, .int x3), (4, .int y1)]) [0, 3, 4] rfl ?_
                exact hk2 _
set_option maxHeartbeats 1000000 in
set_option maxRecDepth 20000 in
theorem ct_X5_lookNext (l : Launch) (hl : l.stackTraces = false) (G : zG) (t : Nat) (ht : zsh t = 5) (M : zM) : zMt l G Y_X5_lookNext 8 [.ref (G.2.1 + t)] M (F_X5_lookNext t M) := by
  refine zMt_of (by decide +kernel) (Nat.le_of_ble_eq_true rfl) ?_
  show zEv l G Y_X5_lookNext 8 0 0 [(0, .ref (G.2.1 + t))] [] M (F_X5_lookNext_L6 t (fun (y2 : Int32) (M4 : zM) => zI y2 M4) zN (-1) 0 0 M)
  refine ev_iconst (v := (-1)) dd_X5_lookNext_0 (by decide) ?_
  refine ev_istore_n (i := 1) (lv' := [(0, .ref (G.2.1 + t)), (1, .int (-1))]) [1, 0] dd_X5_lookNext_1 rfl (by decide) rfl ?_
  refine ev_iconst (v := 0) dd_X5_lookNext_2 (by decide) ?_
  refine ev_istore_n (i := 2) (lv' := [(0, .ref (G.2.1 + t)), (1, .int (-1)), (2, .int 0)]) [1, 2, 0] dd_X5_lookNext_3 rfl (by decide) rfl ?_
  refine ev_iconst (v := 0) dd_X5_lookNext_4 (by decide) ?_
  refine ev_istore_n (i := 3) (lv' := [(0, .ref (G.2.1 + t)), (1, .int (-1)), (2, .int 0), (3, .int 0)]) [1, 2, 3, 0] dd_X5_lookNext_5 rfl (by decide) rfl ?_
  refine ct_X5_lookNext_L6 l hl G t ht _ (fun y2 M4 => ?_) zN _ _ _ _
  refine ev_iload_n dd_X5_lookNext_95 0 rfl ?_
  refine ev_lv (lv' := []) [] rfl ?_
  exact ev_iret dd_X5_lookNext_96 rfl (Nat.le_of_ble_eq_true rfl) rfl
/-! X11_look -/
theorem dd_X11_look_0 : decode Y_X11_look.2.1 0 = .ok (.iload_n 1, 1) := by decide +kernel
theorem dd_X11_look_1 : decode Y_X11_look.2.1 1 = .ok (.iconst 3, 1) := by decide +kernel
theorem dd_X11_look_2 : decode Y_X11_look.2.1 2 = .ok (.invokestatic 323, 3) := by decide +kernel
theorem dd_X11_look_5 : decode Y_X11_look.2.1 5 = .ok (.aload_n 0, 1) := by decide +kernel
theorem dd_X11_look_6 : decode Y_X11_look.2.1 6 = .ok (.getfield 92, 3) := by decide +kernel
theorem dd_X11_look_9 : decode Y_X11_look.2.1 9 = .ok (.iload_n 1, 1) := by decide +kernel
theorem dd_X11_look_10 : decode Y_X11_look.2.1 10 = .ok (.iconst 1, 1) := by decide +kernel
theorem dd_X11_look_11 : decode Y_X11_look.2.1 11 = .ok (.aload_n 0, 1) := by decide +kernel
theorem dd_X11_look_12 : decode Y_X11_look.2.1 12 = .ok (.getfield 104, 3) := by decide +kernel
theorem dd_X11_look_15 : decode Y_X11_look.2.1 15 = .ok (.invokevirtual 338, 3) := by decide +kernel
theorem dd_X11_look_18 : decode Y_X11_look.2.1 18 = .ok (.aload_n 0, 1) := by decide +kernel
theorem dd_X11_look_19 : decode Y_X11_look.2.1 19 = .ok (.getfield 92, 3) := by decide +kernel
theorem dd_X11_look_22 : decode Y_X11_look.2.1 22 = .ok (.invokevirtual 347, 3) := by decide +kernel
theorem dd_X11_look_25 : decode Y_X11_look.2.1 25 = .ok (.ireturn, 1) := by decide +kernel
def F_X11_look (t : Nat) (a1 : Int32) (M : zM) : zO := zbV (F_X11_needAmount a1 3 M) (fun M1 => zbV (F_X5_find (zgr t 12) a1 1 (M1 t 15) M1) (fun M2 => zbI (F_X5_lookNext (zgr t 12) M2) (fun r1 M3 => zI r1 M3)))
set_option maxHeartbeats 1000000 in
set_option maxRecDepth 20000 in
theorem ct_X11_look (l : Launch) (hl : l.stackTraces = false) (G : zG) (t : Nat) (ht : zsh t = 11) (a1 : Int32) (M : zM) : zMt l G Y_X11_look 110 [.ref (G.2.1 + t), .int a1] M (F_X11_look t a1 M) := by
  refine zMt_of (by decide +kernel) (Nat.le_of_ble_eq_true rfl) ?_
  show zEv l G Y_X11_look 110 0 0 [(0, .ref (G.2.1 + t)), (1, .int a1)] [] M (zbV (F_X11_needAmount a1 3 M) (fun M1 => zbV (F_X5_find (zgr t 12) a1 1 (M1 t 15) M1) (fun M2 => zbI (F_X5_lookNext (zgr t 12) M2) (fun r1 M3 => zI r1 M3))))
  refine ev_iload_n dd_X11_look_0 1 rfl ?_
  refine ev_iconst (v := 3) dd_X11_look_1 (by decide) ?_
  refine ev_callSV (As := [.int a1, .int 3]) cl_RX11_323 (ct_X11_needAmount l hl G a1 3 M) dd_X11_look_2 (by decide) (Nat.le_of_ble_eq_true rfl) (Nat.le_of_ble_eq_true rfl) rfl rfl (fun M1 => ?_)
  refine ev_aload_n dd_X11_look_5 0 rfl ?_
  refine ev_getR gf_RX11_92 dd_X11_look_6 ht (by decide) ?_
  refine ev_iload_n dd_X11_look_9 1 rfl ?_
  refine ev_lv (lv' := [(0, .ref (G.2.1 + t))]) [0] rfl ?_
  refine ev_iconst (v := 1) dd_X11_look_10 (by decide) ?_
  refine ev_aload_n dd_X11_look_11 0 rfl ?_
  refine ev_getI gf_RX11_104 dd_X11_look_12 ht (by decide) ?_
  refine ev_callVV (As := [.int a1, .int 1, .int (M1 t 15)]) cl_RX11_338 (ct_X5_find l hl G (zgr t 12) (zg_11_12 ht) a1 1 (M1 t 15) M1) dd_X11_look_15 (zg_11_12 ht) (by decide) (Nat.le_of_ble_eq_true rfl) (Nat.le_of_ble_eq_true rfl) rfl rfl (fun M2 => ?_)
  refine ev_aload_n dd_X11_look_18 0 rfl ?_
  refine ev_lv (lv' := []) [] rfl ?_
  refine ev_getR gf_RX11_92 dd_X11_look_19 ht (by decide) ?_
  refine ev_callVI (As := []) cl_RX11_347 (ct_X5_lookNext l hl G (zgr t 12) (zg_11_12 ht) M2) dd_X11_look_22 (zg_11_12 ht) (by decide) (Nat.le_of_ble_eq_true rfl) (Nat.le_of_ble_eq_true rfl) rfl rfl (fun r1 M3 => ?_)
  exact ev_iret dd_X11_look_25 rfl (Nat.le_of_ble_eq_true rfl) rfl
/-! X11_may -/
theorem dd_X11_may_0 : decode Y_X11_may.2.1 0 = .ok (.aload_n 0, 1) := by decide +kernel
theorem dd_X11_may_1 : decode Y_X11_may.2.1 1 = .ok (.iload_n 1, 1) := by decide +kernel
theorem dd_X11_may_2 : decode Y_X11_may.2.1 2 = .ok (.iload_n 2, 1) := by decide +kernel
theorem dd_X11_may_3 : decode Y_X11_may.2.1 3 = .ok (.invokevirtual 209, 3) := by decide +kernel
theorem dd_X11_may_6 : decode Y_X11_may.2.1 6 = .ok (.aload_n 0, 1) := by decide +kernel
theorem dd_X11_may_7 : decode Y_X11_may.2.1 7 = .ok (.getfield 40, 3) := by decide +kernel
theorem dd_X11_may_10 : decode Y_X11_may.2.1 10 = .ok (.iload_n 1, 1) := by decide +kernel
theorem dd_X11_may_11 : decode Y_X11_may.2.1 11 = .ok (.iload_n 2, 1) := by decide +kernel
theorem dd_X11_may_12 : decode Y_X11_may.2.1 12 = .ok (.invokevirtual 215, 3) := by decide +kernel
theorem dd_X11_may_15 : decode Y_X11_may.2.1 15 = .ok (.ireturn, 1) := by decide +kernel
def F_X11_may (t : Nat) (a1 : Int32) (a2 : Int32) (M : zM) : zO := zbV (F_X11_needTwo t a1 a2 M) (fun M1 => zbI (F_X10_lets (zgr t 4) a1 a2 M1) (fun r1 M2 => zck (zbo r1) (zI r1 M2)))
set_option maxHeartbeats 1000000 in
set_option maxRecDepth 20000 in
theorem ct_X11_may (l : Launch) (hl : l.stackTraces = false) (G : zG) (t : Nat) (ht : zsh t = 11) (a1 : Int32) (a2 : Int32) (M : zM) : zMt l G Y_X11_may 12 [.ref (G.2.1 + t), .int a1, .int a2] M (F_X11_may t a1 a2 M) := by
  refine zMt_of (by decide +kernel) (Nat.le_of_ble_eq_true rfl) ?_
  show zEv l G Y_X11_may 12 0 0 [(0, .ref (G.2.1 + t)), (1, .int a1), (2, .int a2)] [] M (zbV (F_X11_needTwo t a1 a2 M) (fun M1 => zbI (F_X10_lets (zgr t 4) a1 a2 M1) (fun r1 M2 => zck (zbo r1) (zI r1 M2))))
  refine ev_aload_n dd_X11_may_0 0 rfl ?_
  refine ev_iload_n dd_X11_may_1 1 rfl ?_
  refine ev_iload_n dd_X11_may_2 2 rfl ?_
  refine ev_callVV (As := [.int a1, .int a2]) cl_RX11_209 (ct_X11_needTwo l hl G t ht a1 a2 M) dd_X11_may_3 ht (by decide) (Nat.le_of_ble_eq_true rfl) (Nat.le_of_ble_eq_true rfl) rfl rfl (fun M1 => ?_)
  refine ev_aload_n dd_X11_may_6 0 rfl ?_
  refine ev_lv (lv' := [(1, .int a1), (2, .int a2)]) [1, 2] rfl ?_
  refine ev_getR gf_RX11_40 dd_X11_may_7 ht (by decide) ?_
  refine ev_iload_n dd_X11_may_10 0 rfl ?_
  refine ev_lv (lv' := [(2, .int a2)]) [1] rfl ?_
  refine ev_iload_n dd_X11_may_11 0 rfl ?_
  refine ev_lv (lv' := []) [] rfl ?_
  refine ev_callVI (As := [.int a1, .int a2]) cl_RX11_215 (ct_X10_lets l hl G (zgr t 4) (zg_11_4 ht) a1 a2 M1) dd_X11_may_12 (zg_11_4 ht) (by decide) (Nat.le_of_ble_eq_true rfl) (Nat.le_of_ble_eq_true rfl) rfl rfl (fun r1 M2 => ?_)
  exact ev_zret dd_X11_may_15 rfl (Nat.le_of_ble_eq_true rfl) rfl
/-! X11_name -/
theorem dd_X11_name_0 : decode Y_X11_name.2.1 0 = .ok (.aload_n 0, 1) := by decide +kernel
theorem dd_X11_name_1 : decode Y_X11_name.2.1 1 = .ok (.iload_n 1, 1) := by decide +kernel
theorem dd_X11_name_2 : decode Y_X11_name.2.1 2 = .ok (.invokevirtual 169, 3) := by decide +kernel
theorem dd_X11_name_5 : decode Y_X11_name.2.1 5 = .ok (.iload_n 2, 1) := by decide +kernel
theorem dd_X11_name_6 : decode Y_X11_name.2.1 6 = .ok (.tableswitch 86 0 4 #[34, 47, 57, 67, 77], 34) := by decide +kernel
theorem dd_X11_name_40 : decode Y_X11_name.2.1 40 = .ok (.aload_n 0, 1) := by decide +kernel
theorem dd_X11_name_41 : decode Y_X11_name.2.1 41 = .ok (.getfield 19, 3) := by decide +kernel
theorem dd_X11_name_44 : decode Y_X11_name.2.1 44 = .ok (.getfield 172, 3) := by decide +kernel
theorem dd_X11_name_47 : decode Y_X11_name.2.1 47 = .ok (.getfield 176, 3) := by decide +kernel
theorem dd_X11_name_50 : decode Y_X11_name.2.1 50 = .ok (.iload_n 1, 1) := by decide +kernel
theorem dd_X11_name_51 : decode Y_X11_name.2.1 51 = .ok (.iaload, 1) := by decide +kernel
theorem dd_X11_name_52 : decode Y_X11_name.2.1 52 = .ok (.ireturn, 1) := by decide +kernel
theorem dd_X11_name_53 : decode Y_X11_name.2.1 53 = .ok (.aload_n 0, 1) := by decide +kernel
theorem dd_X11_name_54 : decode Y_X11_name.2.1 54 = .ok (.getfield 19, 3) := by decide +kernel
theorem dd_X11_name_57 : decode Y_X11_name.2.1 57 = .ok (.getfield 181, 3) := by decide +kernel
theorem dd_X11_name_60 : decode Y_X11_name.2.1 60 = .ok (.iload_n 1, 1) := by decide +kernel
theorem dd_X11_name_61 : decode Y_X11_name.2.1 61 = .ok (.iaload, 1) := by decide +kernel
theorem dd_X11_name_62 : decode Y_X11_name.2.1 62 = .ok (.ireturn, 1) := by decide +kernel
theorem dd_X11_name_63 : decode Y_X11_name.2.1 63 = .ok (.aload_n 0, 1) := by decide +kernel
theorem dd_X11_name_64 : decode Y_X11_name.2.1 64 = .ok (.getfield 19, 3) := by decide +kernel
theorem dd_X11_name_67 : decode Y_X11_name.2.1 67 = .ok (.getfield 184, 3) := by decide +kernel
theorem dd_X11_name_70 : decode Y_X11_name.2.1 70 = .ok (.iload_n 1, 1) := by decide +kernel
theorem dd_X11_name_71 : decode Y_X11_name.2.1 71 = .ok (.iaload, 1) := by decide +kernel
theorem dd_X11_name_72 : decode Y_X11_name.2.1 72 = .ok (.ireturn, 1) := by decide +kernel
theorem dd_X11_name_73 : decode Y_X11_name.2.1 73 = .ok (.aload_n 0, 1) := by decide +kernel
theorem dd_X11_name_74 : decode Y_X11_name.2.1 74 = .ok (.getfield 19, 3) := by decide +kernel
theorem dd_X11_name_77 : decode Y_X11_name.2.1 77 = .ok (.getfield 187, 3) := by decide +kernel
theorem dd_X11_name_80 : decode Y_X11_name.2.1 80 = .ok (.iload_n 1, 1) := by decide +kernel
theorem dd_X11_name_81 : decode Y_X11_name.2.1 81 = .ok (.iaload, 1) := by decide +kernel
theorem dd_X11_name_82 : decode Y_X11_name.2.1 82 = .ok (.ireturn, 1) := by decide +kernel
theorem dd_X11_name_83 : decode Y_X11_name.2.1 83 = .ok (.aload_n 0, 1) := by decide +kernel
theorem dd_X11_name_84 : decode Y_X11_name.2.1 84 = .ok (.getfield 40, 3) := by decide +kernel
theorem dd_X11_name_87 : decode Y_X11_name.2.1 87 = .ok (.iload_n 1, 1) := by decide +kernel
theorem dd_X11_name_88 : decode Y_X11_name.2.1 88 = .ok (.invokevirtual 190, 3) := by decide +kernel
theorem dd_X11_name_91 : decode Y_X11_name.2.1 91 = .ok (.ireturn, 1) := by decide +kernel
theorem dd_X11_name_92 : decode Y_X11_name.2.1 92 = .ok (.new 164, 3) := by decide +kernel
theorem dd_X11_name_95 : decode Y_X11_name.2.1 95 = .ok (.dup, 1) := by decide +kernel
theorem dd_X11_name_96 : decode Y_X11_name.2.1 96 = .ok (.ldc 193, 2) := by decide +kernel
theorem dd_X11_name_98 : decode Y_X11_name.2.1 98 = .ok (.invokespecial 168, 3) := by decide +kernel
theorem dd_X11_name_101 : decode Y_X11_name.2.1 101 = .ok (.athrow, 1) := by decide +kernel
def F_X11_name (t : Nat) (a1 : Int32) (a2 : Int32) (M : zM) : zO := zbV (F_X11_needName t a1 M) (fun M1 => zit (a2 = 0) (zck (zin a1 8) (zI (M1 (zgr (zgr (zgr t 1) 4) 1) (zix a1)) M1)) (zit (a2 = 1) (zck (zin a1 8) (zI (M1 (zgr (zgr t 1) 6) (zix a1)) M1)) (zit (a2 = 2) (zck (zin a1 8) (zI (M1 (zgr (zgr t 1) 7) (zix a1)) M1)) (zit (a2 = 3) (zck (zin a1 8) (zI (M1 (zgr (zgr t 1) 8) (zix a1)) M1)) (zit (a2 = 4) (zbI (F_X10_holder (zgr t 4) a1 M1) (fun r1 M2 => zI r1 M2)) (zE "java/util/NoSuchElementException" M1))))))
set_option maxHeartbeats 1000000 in
set_option maxRecDepth 20000 in
theorem ct_X11_name (l : Launch) (hl : l.stackTraces = false) (G : zG) (t : Nat) (ht : zsh t = 11) (a1 : Int32) (a2 : Int32) (M : zM) : zMt l G Y_X11_name 2 [.ref (G.2.1 + t), .int a1, .int a2] M (F_X11_name t a1 a2 M) := by
  refine zMt_of (by decide +kernel) (Nat.le_of_ble_eq_true rfl) ?_
  show zEv l G Y_X11_name 2 0 0 [(0, .ref (G.2.1 + t)), (1, .int a1), (2, .int a2)] [] M (zbV (F_X11_needName t a1 M) (fun M1 => zit (a2 = 0) (zck (zin a1 8) (zI (M1 (zgr (zgr (zgr t 1) 4) 1) (zix a1)) M1)) (zit (a2 = 1) (zck (zin a1 8) (zI (M1 (zgr (zgr t 1) 6) (zix a1)) M1)) (zit (a2 = 2) (zck (zin a1 8) (zI (M1 (zgr (zgr t 1) 7) (zix a1)) M1)) (zit (a2 = 3) (zck (zin a1 8) (zI (M1 (zgr (zgr t 1) 8) (zix a1)) M1)) (zit (a2 = 4) (zbI (F_X10_holder (zgr t 4) a1 M1) (fun r1 M2 => zI r1 M2)) (zE "java/util/NoSuchElementException" M1)))))))
  refine ev_aload_n dd_X11_name_0 0 rfl ?_
  refine ev_iload_n dd_X11_name_1 1 rfl ?_
  refine ev_callVV (As := [.int a1]) cl_RX11_169 (ct_X11_needName l hl G t ht a1 M) dd_X11_name_2 ht (by decide) (Nat.le_of_ble_eq_true rfl) (Nat.le_of_ble_eq_true rfl) rfl rfl (fun M1 => ?_)
  refine ev_iload_n dd_X11_name_5 2 rfl ?_
  refine ev_lv (lv' := [(0, .ref (G.2.1 + t)), (1, .int a1)]) [0, 1] rfl ?_
  refine ev_it (fun hs1 => ?_) (fun hs1 => ?_)
  · refine ev_tabIn (off := 34) (tgt := 40) dd_X11_name_6 0 hs1 (by decide +kernel) ?_
    refine ev_aload_n dd_X11_name_40 0 rfl ?_
    refine ev_lv (lv' := [(1, .int a1)]) [1] rfl ?_
    refine ev_getR gf_RX11_19 dd_X11_name_41 ht (by decide) ?_
    refine ev_getR gf_RX11_172 dd_X11_name_44 (zg_11_1 ht) (by decide) ?_
    refine ev_getR gf_RX11_176 dd_X11_name_47 (zg_6_4 (zg_11_1 ht)) (by decide) ?_
    refine ev_iload_n dd_X11_name_50 0 rfl ?_
    refine ev_lv (lv' := []) [] rfl ?_
    refine ev_iald dd_X11_name_51 ((zg_9_1 (zg_6_4 (zg_11_1 ht))).1) ((zg_9_1 (zg_6_4 (zg_11_1 ht))).2) ?_
    exact ev_iret dd_X11_name_52 rfl (Nat.le_of_ble_eq_true rfl) rfl
  refine ev_it (fun hs2 => ?_) (fun hs2 => ?_)
  · refine ev_tabIn (off := 47) (tgt := 53) dd_X11_name_6 1 hs2 (by decide +kernel) ?_
    refine ev_aload_n dd_X11_name_53 0 rfl ?_
    refine ev_lv (lv' := [(1, .int a1)]) [1] rfl ?_
    refine ev_getR gf_RX11_19 dd_X11_name_54 ht (by decide) ?_
    refine ev_getR gf_RX11_181 dd_X11_name_57 (zg_11_1 ht) (by decide) ?_
    refine ev_iload_n dd_X11_name_60 0 rfl ?_
    refine ev_lv (lv' := []) [] rfl ?_
    refine ev_iald dd_X11_name_61 ((zg_6_6 (zg_11_1 ht)).1) ((zg_6_6 (zg_11_1 ht)).2) ?_
    exact ev_iret dd_X11_name_62 rfl (Nat.le_of_ble_eq_true rfl) rfl
  refine ev_it (fun hs3 => ?_) (fun hs3 => ?_)
  · refine ev_tabIn (off := 57) (tgt := 63) dd_X11_name_6 2 hs3 (by decide +kernel) ?_
    refine ev_aload_n dd_X11_name_63 0 rfl ?_
    refine ev_lv (lv' := [(1, .int a1)]) [1] rfl ?_
    refine ev_getR gf_RX11_19 dd_X11_name_64 ht (by decide) ?_
    refine ev_getR gf_RX11_184 dd_X11_name_67 (zg_11_1 ht) (by decide) ?_
    refine ev_iload_n dd_X11_name_70 0 rfl ?_
    refine ev_lv (lv' := []) [] rfl ?_
    refine ev_iald dd_X11_name_71 ((zg_6_7 (zg_11_1 ht)).1) ((zg_6_7 (zg_11_1 ht)).2) ?_
    exact ev_iret dd_X11_name_72 rfl (Nat.le_of_ble_eq_true rfl) rfl
  refine ev_it (fun hs4 => ?_) (fun hs4 => ?_)
  · refine ev_tabIn (off := 67) (tgt := 73) dd_X11_name_6 3 hs4 (by decide +kernel) ?_
    refine ev_aload_n dd_X11_name_73 0 rfl ?_
    refine ev_lv (lv' := [(1, .int a1)]) [1] rfl ?_
    refine ev_getR gf_RX11_19 dd_X11_name_74 ht (by decide) ?_
    refine ev_getR gf_RX11_187 dd_X11_name_77 (zg_11_1 ht) (by decide) ?_
    refine ev_iload_n dd_X11_name_80 0 rfl ?_
    refine ev_lv (lv' := []) [] rfl ?_
    refine ev_iald dd_X11_name_81 ((zg_6_8 (zg_11_1 ht)).1) ((zg_6_8 (zg_11_1 ht)).2) ?_
    exact ev_iret dd_X11_name_82 rfl (Nat.le_of_ble_eq_true rfl) rfl
  refine ev_it (fun hs5 => ?_) (fun hs5 => ?_)
  · refine ev_tabIn (off := 77) (tgt := 83) dd_X11_name_6 4 hs5 (by decide +kernel) ?_
    refine ev_aload_n dd_X11_name_83 0 rfl ?_
    refine ev_lv (lv' := [(1, .int a1)]) [1] rfl ?_
    refine ev_getR gf_RX11_40 dd_X11_name_84 ht (by decide) ?_
    refine ev_iload_n dd_X11_name_87 0 rfl ?_
    refine ev_lv (lv' := []) [] rfl ?_
    refine ev_callVI (As := [.int a1]) cl_RX11_190 (ct_X10_holder l hl G (zgr t 4) (zg_11_4 ht) a1 M1) dd_X11_name_88 (zg_11_4 ht) (by decide) (Nat.le_of_ble_eq_true rfl) (Nat.le_of_ble_eq_true rfl) rfl rfl (fun r1 M2 => ?_)
    exact ev_iret dd_X11_name_91 rfl (Nat.le_of_ble_eq_true rfl) rfl
  refine ev_tabOut (tgt := 92) dd_X11_name_6 (by have e0 := i32ne hs1 (n := 0) (by decide); have e1 := i32ne hs2 (n := 1) (by decide); have e2 := i32ne hs3 (n := 2) (by decide); have e3 := i32ne hs4 (n := 3) (by decide); have e4 := i32ne hs5 (n := 4) (by decide); omega) (by decide) ?_
  refine ev_lv (lv' := []) [] rfl ?_
  exact ev_throwN hl zTh_NSE sr_RX11_193 dd_X11_name_92 dd_X11_name_95 dd_X11_name_96 dd_X11_name_98 dd_X11_name_101 (Nat.le_of_ble_eq_true rfl) (Nat.le_of_ble_eq_true rfl)
/-! X11_needNoneOrMore -/
theorem dd_X11_needNoneOrMore_0 : decode Y_X11_needNoneOrMore.2.1 0 = .ok (.iload_n 0, 1) := by decide +kernel
theorem dd_X11_needNoneOrMore_1 : decode Y_X11_needNoneOrMore.2.1 1 = .ok (.iconst (-1), 1) := by decide +kernel
theorem dd_X11_needNoneOrMore_2 : decode Y_X11_needNoneOrMore.2.1 2 = .ok (.if_icmp .ge 14, 3) := by decide +kernel
theorem dd_X11_needNoneOrMore_5 : decode Y_X11_needNoneOrMore.2.1 5 = .ok (.new 164, 3) := by decide +kernel
theorem dd_X11_needNoneOrMore_8 : decode Y_X11_needNoneOrMore.2.1 8 = .ok (.dup, 1) := by decide +kernel
theorem dd_X11_needNoneOrMore_9 : decode Y_X11_needNoneOrMore.2.1 9 = .ok (.ldc_w 375, 3) := by decide +kernel
theorem dd_X11_needNoneOrMore_12 : decode Y_X11_needNoneOrMore.2.1 12 = .ok (.invokespecial 168, 3) := by decide +kernel
theorem dd_X11_needNoneOrMore_15 : decode Y_X11_needNoneOrMore.2.1 15 = .ok (.athrow, 1) := by decide +kernel
theorem dd_X11_needNoneOrMore_16 : decode Y_X11_needNoneOrMore.2.1 16 = .ok (.return_, 1) := by decide +kernel
def F_X11_needNoneOrMore (a0 : Int32) (M : zM) : zO := zit ((-1) ≤ a0) (zV M) (zE "java/util/NoSuchElementException" M)
set_option maxHeartbeats 1000000 in
set_option maxRecDepth 20000 in
theorem ct_X11_needNoneOrMore (l : Launch) (hl : l.stackTraces = false) (G : zG) (a0 : Int32) (M : zM) : zMt l G Y_X11_needNoneOrMore 1 [.int a0] M (F_X11_needNoneOrMore a0 M) := by
  refine zMt_of (by decide +kernel) (Nat.le_of_ble_eq_true rfl) ?_
  show zEv l G Y_X11_needNoneOrMore 1 0 0 [(0, .int a0)] [] M (zit ((-1) ≤ a0) (zV M) (zE "java/util/NoSuchElementException" M))
  refine ev_iload_n dd_X11_needNoneOrMore_0 0 rfl ?_
  refine ev_lv (lv' := []) [] rfl ?_
  refine ev_iconst (v := (-1)) dd_X11_needNoneOrMore_1 (by decide) ?_
  refine ev_icmp_ge 16 dd_X11_needNoneOrMore_2 (by decide) ?_ ?_
  · exact ev_vret dd_X11_needNoneOrMore_16 rfl (Nat.le_of_ble_eq_true rfl) rfl
  · exact ev_throwNW hl zTh_NSE sr_RX11_375 dd_X11_needNoneOrMore_5 dd_X11_needNoneOrMore_8 dd_X11_needNoneOrMore_9 dd_X11_needNoneOrMore_12 dd_X11_needNoneOrMore_15 (Nat.le_of_ble_eq_true rfl) (Nat.le_of_ble_eq_true rfl)
/-! X11_needPlace -/
theorem dd_X11_needPlace_0 : decode Y_X11_needPlace.2.1 0 = .ok (.iload_n 0, 1) := by decide +kernel
theorem dd_X11_needPlace_1 : decode Y_X11_needPlace.2.1 1 = .ok (.bipush 60, 2) := by decide +kernel
theorem dd_X11_needPlace_3 : decode Y_X11_needPlace.2.1 3 = .ok (.invokestatic 323, 3) := by decide +kernel
theorem dd_X11_needPlace_6 : decode Y_X11_needPlace.2.1 6 = .ok (.iload_n 1, 1) := by decide +kernel
theorem dd_X11_needPlace_7 : decode Y_X11_needPlace.2.1 7 = .ok (.bipush 60, 2) := by decide +kernel
theorem dd_X11_needPlace_9 : decode Y_X11_needPlace.2.1 9 = .ok (.invokestatic 323, 3) := by decide +kernel
theorem dd_X11_needPlace_12 : decode Y_X11_needPlace.2.1 12 = .ok (.return_, 1) := by decide +kernel
def F_X11_needPlace (a0 : Int32) (a1 : Int32) (M : zM) : zO := zbV (F_X11_needAmount a0 60 M) (fun M1 => zbV (F_X11_needAmount a1 60 M1) (fun M2 => zV M2))
set_option maxHeartbeats 1000000 in
set_option maxRecDepth 20000 in
theorem ct_X11_needPlace (l : Launch) (hl : l.stackTraces = false) (G : zG) (a0 : Int32) (a1 : Int32) (M : zM) : zMt l G Y_X11_needPlace 2 [.int a0, .int a1] M (F_X11_needPlace a0 a1 M) := by
  refine zMt_of (by decide +kernel) (Nat.le_of_ble_eq_true rfl) ?_
  show zEv l G Y_X11_needPlace 2 0 0 [(0, .int a0), (1, .int a1)] [] M (zbV (F_X11_needAmount a0 60 M) (fun M1 => zbV (F_X11_needAmount a1 60 M1) (fun M2 => zV M2)))
  refine ev_iload_n dd_X11_needPlace_0 0 rfl ?_
  refine ev_lv (lv' := [(1, .int a1)]) [1] rfl ?_
  refine ev_bipush (v := 60) dd_X11_needPlace_1 (by decide) ?_
  refine ev_callSV (As := [.int a0, .int 60]) cl_RX11_323 (ct_X11_needAmount l hl G a0 60 M) dd_X11_needPlace_3 (by decide) (Nat.le_of_ble_eq_true rfl) (Nat.le_of_ble_eq_true rfl) rfl rfl (fun M1 => ?_)
  refine ev_iload_n dd_X11_needPlace_6 0 rfl ?_
  refine ev_lv (lv' := []) [] rfl ?_
  refine ev_bipush (v := 60) dd_X11_needPlace_7 (by decide) ?_
  refine ev_callSV (As := [.int a1, .int 60]) cl_RX11_323 (ct_X11_needAmount l hl G a1 60 M1) dd_X11_needPlace_9 (by decide) (Nat.le_of_ble_eq_true rfl) (Nat.le_of_ble_eq_true rfl) rfl rfl (fun M2 => ?_)
  exact ev_vret dd_X11_needPlace_12 rfl (Nat.le_of_ble_eq_true rfl) rfl
