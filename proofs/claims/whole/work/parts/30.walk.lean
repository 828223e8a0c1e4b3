/-! F functions and walks, by program (gen.py, mkparts.py) -/
/-! X12_tide -/
theorem dd_X12_tide_0 : decode Y_X12_tide.2.1 0 = .ok (.aload_n 0, 1) := by decide +kernel
theorem dd_X12_tide_1 : decode Y_X12_tide.2.1 1 = .ok (.iconst 0, 1) := by decide +kernel
theorem dd_X12_tide_2 : decode Y_X12_tide.2.1 2 = .ok (.putfield 153, 3) := by decide +kernel
theorem dd_X12_tide_5 : decode Y_X12_tide.2.1 5 = .ok (.aload_n 0, 1) := by decide +kernel
theorem dd_X12_tide_6 : decode Y_X12_tide.2.1 6 = .ok (.iload_n 1, 1) := by decide +kernel
theorem dd_X12_tide_7 : decode Y_X12_tide.2.1 7 = .ok (.iconst 0, 1) := by decide +kernel
theorem dd_X12_tide_8 : decode Y_X12_tide.2.1 8 = .ok (.bipush 9, 2) := by decide +kernel
theorem dd_X12_tide_10 : decode Y_X12_tide.2.1 10 = .ok (.invokestatic 339, 3) := by decide +kernel
theorem dd_X12_tide_13 : decode Y_X12_tide.2.1 13 = .ok (.iconst 1, 1) := by decide +kernel
theorem dd_X12_tide_14 : decode Y_X12_tide.2.1 14 = .ok (.invokevirtual 312, 3) := by decide +kernel
theorem dd_X12_tide_17 : decode Y_X12_tide.2.1 17 = .ok (.ifCond .ne 5, 3) := by decide +kernel
theorem dd_X12_tide_20 : decode Y_X12_tide.2.1 20 = .ok (.iconst 0, 1) := by decide +kernel
theorem dd_X12_tide_21 : decode Y_X12_tide.2.1 21 = .ok (.ireturn, 1) := by decide +kernel
theorem dd_X12_tide_22 : decode Y_X12_tide.2.1 22 = .ok (.iconst 0, 1) := by decide +kernel
theorem dd_X12_tide_23 : decode Y_X12_tide.2.1 23 = .ok (.istore_n 2, 1) := by decide +kernel
theorem dd_X12_tide_24 : decode Y_X12_tide.2.1 24 = .ok (.iconst 0, 1) := by decide +kernel
theorem dd_X12_tide_25 : decode Y_X12_tide.2.1 25 = .ok (.istore_n 3, 1) := by decide +kernel
theorem dd_X12_tide_26 : decode Y_X12_tide.2.1 26 = .ok (.iload_n 3, 1) := by decide +kernel
theorem dd_X12_tide_27 : decode Y_X12_tide.2.1 27 = .ok (.aload_n 0, 1) := by decide +kernel
theorem dd_X12_tide_28 : decode Y_X12_tide.2.1 28 = .ok (.getfield 319, 3) := by decide +kernel
theorem dd_X12_tide_31 : decode Y_X12_tide.2.1 31 = .ok (.if_icmp .ge 48, 3) := by decide +kernel
theorem dd_X12_tide_34 : decode Y_X12_tide.2.1 34 = .ok (.iload_n 3, 1) := by decide +kernel
theorem dd_X12_tide_35 : decode Y_X12_tide.2.1 35 = .ok (.iconst 1, 1) := by decide +kernel
theorem dd_X12_tide_36 : decode Y_X12_tide.2.1 36 = .ok (.iadd, 1) := by decide +kernel
theorem dd_X12_tide_37 : decode Y_X12_tide.2.1 37 = .ok (.istore 4, 2) := by decide +kernel
theorem dd_X12_tide_39 : decode Y_X12_tide.2.1 39 = .ok (.iload 4, 2) := by decide +kernel
theorem dd_X12_tide_41 : decode Y_X12_tide.2.1 41 = .ok (.aload_n 0, 1) := by decide +kernel
theorem dd_X12_tide_42 : decode Y_X12_tide.2.1 42 = .ok (.getfield 319, 3) := by decide +kernel
theorem dd_X12_tide_45 : decode Y_X12_tide.2.1 45 = .ok (.if_icmp .ge 28, 3) := by decide +kernel
theorem dd_X12_tide_48 : decode Y_X12_tide.2.1 48 = .ok (.iload_n 2, 1) := by decide +kernel
theorem dd_X12_tide_49 : decode Y_X12_tide.2.1 49 = .ok (.aload_n 0, 1) := by decide +kernel
theorem dd_X12_tide_50 : decode Y_X12_tide.2.1 50 = .ok (.iload_n 3, 1) := by decide +kernel
theorem dd_X12_tide_51 : decode Y_X12_tide.2.1 51 = .ok (.iload 4, 2) := by decide +kernel
theorem dd_X12_tide_53 : decode Y_X12_tide.2.1 53 = .ok (.iload_n 1, 1) := by decide +kernel
theorem dd_X12_tide_54 : decode Y_X12_tide.2.1 54 = .ok (.invokevirtual 447, 3) := by decide +kernel
theorem dd_X12_tide_57 : decode Y_X12_tide.2.1 57 = .ok (.ifCond .eq 7, 3) := by decide +kernel
theorem dd_X12_tide_60 : decode Y_X12_tide.2.1 60 = .ok (.iconst 1, 1) := by decide +kernel
theorem dd_X12_tide_61 : decode Y_X12_tide.2.1 61 = .ok (.goto 4, 3) := by decide +kernel
theorem dd_X12_tide_64 : decode Y_X12_tide.2.1 64 = .ok (.iconst 0, 1) := by decide +kernel
theorem dd_X12_tide_65 : decode Y_X12_tide.2.1 65 = .ok (.iadd, 1) := by decide +kernel
theorem dd_X12_tide_66 : decode Y_X12_tide.2.1 66 = .ok (.istore_n 2, 1) := by decide +kernel
theorem dd_X12_tide_67 : decode Y_X12_tide.2.1 67 = .ok (.iinc 4 1, 3) := by decide +kernel
theorem dd_X12_tide_70 : decode Y_X12_tide.2.1 70 = .ok (.goto (-31), 3) := by decide +kernel
theorem dd_X12_tide_73 : decode Y_X12_tide.2.1 73 = .ok (.iinc 3 1, 3) := by decide +kernel
theorem dd_X12_tide_76 : decode Y_X12_tide.2.1 76 = .ok (.goto (-50), 3) := by decide +kernel
theorem dd_X12_tide_79 : decode Y_X12_tide.2.1 79 = .ok (.iload_n 2, 1) := by decide +kernel
theorem dd_X12_tide_80 : decode Y_X12_tide.2.1 80 = .ok (.ireturn, 1) := by decide +kernel
def F_X12_tide_L39 (x0 : Nat) (x1 : Int32) (x3 : Int32) (K73 : Int32 → zM → zO) : Nat → Int32 → Int32 → zM → zO
  | 0, _, _, _ => none
  | n + 1, x2, x4, M => zit ((M x0 1) ≤ x4) (K73 x2 M) (zbI (F_X12_lie x0 x3 x4 x1 M) (fun r3 M4 => zjo (fun (w1 : Int32) (M5 : zM) => zlt (x2 + w1) (fun v2 => F_X12_tide_L39 x0 x1 x3 K73 n v2 (x4 + 1) M5)) (fun (k1 : Int32 → zM → zO) => zit (r3 = 0) (k1 0 M4) (k1 1 M4))))
def F_X12_tide_L26 (x0 : Nat) (x1 : Int32) (K79 : Int32 → zM → zO) : Nat → Int32 → Int32 → zM → zO
  | 0, _, _, _ => none
  | n + 1, x2, x3, M => zit ((M x0 1) ≤ x3) (K79 x2 M) (zlt (x3 + 1) (fun v1 => F_X12_tide_L39 x0 x1 x3 (fun (y1 : Int32) (M6 : zM) => F_X12_tide_L26 x0 x1 K79 n y1 (x3 + 1) M6) zN x2 v1 M))
def F_X12_tide (t : Nat) (a1 : Int32) (M : zM) : zO := zst (zup M t 0 0) (fun M1 => zbI (F_X12_within a1 0 9 M1) (fun r1 M2 => zbI (F_X12_right t r1 1 M2) (fun r2 M3 => zit (r2 = 0) (zI 0 M3) (F_X12_tide_L26 t a1 (fun (y2 : Int32) (M7 : zM) => zI y2 M7) zN 0 0 M3))))
set_option maxHeartbeats 1000000 in
set_option maxRecDepth 20000 in
theorem ct_X12_tide_L39 (l : Launch) (hl : l.stackTraces = false) (G : zG) (x0 : Nat) (hx0 : zsh x0 = 12) (x1 : Int32) (x3 : Int32) (K73 : Int32 → zM → zO) (hK73 : ∀ (x2 : Int32) (M : zM), zEv l G Y_X12_tide 2 0 73 [(0, .ref (G.2.1 + x0)), (1, .int x1), (2, .int x2), (3, .int x3)] [] M (K73 x2 M)) : ∀ (n : Nat) (x2 : Int32) (x4 : Int32) (M : zM), zEv l G Y_X12_tide 2 0 39 [(0, .ref (G.2.1 + x0)), (1, .int x1), (2, .int x2), (3, .int x3), (4, .int x4)] [] M (F_X12_tide_L39 x0 x1 x3 K73 n x2 x4 M) := by
  intro n
  induction n with
  | zero => intro x2 x4 M; exact ev_none
  | succ n ih =>
    intro x2 x4 M
    show zEv l G Y_X12_tide 2 0 39 [(0, .ref (G.2.1 + x0)), (1, .int x1), (2, .int x2), (3, .int x3), (4, .int x4)] [] M (zit ((M x0 1) ≤ x4) (K73 x2 M) (zbI (F_X12_lie x0 x3 x4 x1 M) (fun r3 M4 => zjo (fun (w1 : Int32) (M5 : zM) => zlt (x2 + w1) (fun v2 => F_X12_tide_L39 x0 x1 x3 K73 n v2 (x4 + 1) M5)) (fun (k1 : Int32 → zM → zO) => zit (r3 = 0) (k1 0 M4) (k1 1 M4)))))
    refine ev_iload dd_X12_tide_39 4 rfl ?_
    refine ev_aload_n dd_X12_tide_41 0 rfl ?_
    refine ev_getI gf_RX12_319 dd_X12_tide_42 hx0 (by decide) ?_
    refine ev_icmp_ge 73 dd_X12_tide_45 (by decide) ?_ ?_
    · refine ev_lv (lv' := [(0, .ref (G.2.1 + x0)), (1, .int x1), (2, .int x2), (3, .int x3)]) [0, 1, 2, 3] rfl ?_
      exact hK73 _ _
    · refine ev_iload_n dd_X12_tide_48 2 rfl ?_
      refine ev_lv (lv' := [(0, .ref (G.2.1 + x0)), (1, .int x1), (3, .int x3), (4, .int x4)]) [0, 1, 3, 4] rfl ?_
      refine ev_aload_n dd_X12_tide_49 0 rfl ?_
      refine ev_iload_n dd_X12_tide_50 2 rfl ?_
      refine ev_iload dd_X12_tide_51 3 rfl ?_
      refine ev_iload_n dd_X12_tide_53 1 rfl ?_
      refine ev_callVI (As := [.int x3, .int x4, .int x1]) cl_RX12_447 (ct_X12_lie l hl G x0 hx0 x3 x4 x1 M) dd_X12_tide_54 hx0 (by decide) (Nat.le_of_ble_eq_true rfl) (Nat.le_of_ble_eq_true rfl) rfl rfl (fun r3 M4 => ?_)
      refine ev_jo (fun (k1 : Int32 → zM → zO) => ∀ (w1 : Int32) (M5 : zM), zEv l G Y_X12_tide 2 0 65 [(0, .ref (G.2.1 + x0)), (1, .int x1), (3, .int x3), (4, .int x4)] [.int w1, .int x2] M5 (k1 w1 M5)) ?_ (fun k1 hk1 => ?_)
      · intro w1 M5
        refine ev_iadd dd_X12_tide_65 ?_
        refine ev_topi (fun v2 => ?_)
        refine ev_istore_n (i := 2) (lv' := [(0, .ref (G.2.1 + x0)), (1, .int x1), (2, .int v2), (3, .int x3), (4, .int x4)]) [1, 2, 0, 3, 4] dd_X12_tide_66 rfl (by decide) rfl ?_
        refine ev_iinc (j := 4) (v := 1) (lv' := [(0, .ref (G.2.1 + x0)), (1, .int x1), (2, .int v2), (3, .int x3), (4, .int (x4 + 1))]) [1, 2, 3, 4, 0] dd_X12_tide_67 rfl (by decide) (by decide) rfl ?_
        refine ev_goto 39 dd_X12_tide_70 (by decide) ?_
        exact ih _ _ _
      · refine ev_if_eq 64 dd_X12_tide_57 (by decide) ?_ ?_
        · refine ev_iconst (v := 0) dd_X12_tide_64 (by decide) ?_
          exact hk1 _ _
        · refine ev_iconst (v := 1) dd_X12_tide_60 (by decide) ?_
          refine ev_goto 65 dd_X12_tide_61 (by decide) ?_
          exact hk1 _ _
set_option maxHeartbeats 1000000 in
set_option maxRecDepth 20000 in
theorem ct_X12_tide_L26 (l : Launch) (hl : l.stackTraces = false) (G : zG) (x0 : Nat) (hx0 : zsh x0 = 12) (x1 : Int32) (K79 : Int32 → zM → zO) (hK79 : ∀ (x2 : Int32) (M : zM), zEv l G Y_X12_tide 2 0 79 [(2, .int x2)] [] M (K79 x2 M)) : ∀ (n : Nat) (x2 : Int32) (x3 : Int32) (M : zM), zEv l G Y_X12_tide 2 0 26 [(0, .ref (G.2.1 + x0)), (1, .int x1), (2, .int x2), (3, .int x3)] [] M (F_X12_tide_L26 x0 x1 K79 n x2 x3 M) := by
  intro n
  induction n with
  | zero => intro x2 x3 M; exact ev_none
  | succ n ih =>
    intro x2 x3 M
    show zEv l G Y_X12_tide 2 0 26 [(0, .ref (G.2.1 + x0)), (1, .int x1), (2, .int x2), (3, .int x3)] [] M (zit ((M x0 1) ≤ x3) (K79 x2 M) (zlt (x3 + 1) (fun v1 => F_X12_tide_L39 x0 x1 x3 (fun (y1 : Int32) (M6 : zM) => F_X12_tide_L26 x0 x1 K79 n y1 (x3 + 1) M6) zN x2 v1 M)))
    refine ev_iload_n dd_X12_tide_26 3 rfl ?_
    refine ev_aload_n dd_X12_tide_27 0 rfl ?_
    refine ev_getI gf_RX12_319 dd_X12_tide_28 hx0 (by decide) ?_
    refine ev_icmp_ge 79 dd_X12_tide_31 (by decide) ?_ ?_
    · refine ev_lv (lv' := [(2, .int x2)]) [2] rfl ?_
      exact hK79 _ _
    · refine ev_iload_n dd_X12_tide_34 3 rfl ?_
      refine ev_iconst (v := 1) dd_X12_tide_35 (by decide) ?_
      refine ev_iadd dd_X12_tide_36 ?_
      refine ev_topi (fun v1 => ?_)
      refine ev_istore (i := 4) (lv' := [(0, .ref (G.2.1 + x0)), (1, .int x1), (2, .int x2), (3, .int x3), (4, .int v1)]) [1, 2, 3, 4, 0] dd_X12_tide_37 (by decide) rfl ?_
      refine ct_X12_tide_L39 l hl G x0 hx0 x1 x3 _ (fun y1 M6 => ?_) zN _ _ _
      refine ev_iinc (j := 3) (v := 1) (lv' := [(0, .ref (G.2.1 + x0)), (1, .int x1), (2, .int y1), (3, .int (x3 + 1))]) [1, 2, 3, 0] dd_X12_tide_73 rfl (by decide) (by decide) rfl ?_
      refine ev_goto 26 dd_X12_tide_76 (by decide) ?_
      exact ih _ _ _
set_option maxHeartbeats 1000000 in
set_option maxRecDepth 20000 in
theorem ct_X12_tide (l : Launch) (hl : l.stackTraces = false) (G : zG) (t : Nat) (ht : zsh t = 12) (a1 : Int32) (M : zM) : zMt l G Y_X12_tide 2 [.ref (G.2.1 + t), .int a1] M (F_X12_tide t a1 M) := by
  refine zMt_of (by decide +kernel) (Nat.le_of_ble_eq_true rfl) ?_
  show zEv l G Y_X12_tide 2 0 0 [(0, .ref (G.2.1 + t)), (1, .int a1)] [] M (zst (zup M t 0 0) (fun M1 => zbI (F_X12_within a1 0 9 M1) (fun r1 M2 => zbI (F_X12_right t r1 1 M2) (fun r2 M3 => zit (r2 = 0) (zI 0 M3) (F_X12_tide_L26 t a1 (fun (y2 : Int32) (M7 : zM) => zI y2 M7) zN 0 0 M3)))))
  refine ev_aload_n dd_X12_tide_0 0 rfl ?_
  refine ev_iconst (v := 0) dd_X12_tide_1 (by decide) ?_
  refine ev_putI gw_RX12_153 dd_X12_tide_2 ht (by decide) ?_
  refine ev_st (fun M1 => ?_)
  refine ev_aload_n dd_X12_tide_5 0 rfl ?_
  refine ev_iload_n dd_X12_tide_6 1 rfl ?_
  refine ev_iconst (v := 0) dd_X12_tide_7 (by decide) ?_
  refine ev_bipush (v := 9) dd_X12_tide_8 (by decide) ?_
  refine ev_callSI (As := [.int a1, .int 0, .int 9]) cl_RX12_339 (ct_X12_within l hl G a1 0 9 M1) dd_X12_tide_10 (by decide) (Nat.le_of_ble_eq_true rfl) (Nat.le_of_ble_eq_true rfl) rfl rfl (fun r1 M2 => ?_)
  refine ev_iconst (v := 1) dd_X12_tide_13 (by decide) ?_
  refine ev_callVI (As := [.int r1, .int 1]) cl_RX12_312 (ct_X12_right l hl G t ht r1 1 M2) dd_X12_tide_14 ht (by decide) (Nat.le_of_ble_eq_true rfl) (Nat.le_of_ble_eq_true rfl) rfl rfl (fun r2 M3 => ?_)
  refine ev_if_ne 22 dd_X12_tide_17 (by decide) ?_ ?_
  · refine ev_iconst (v := 0) dd_X12_tide_22 (by decide) ?_
    refine ev_istore_n (i := 2) (lv' := [(0, .ref (G.2.1 + t)), (1, .int a1), (2, .int 0)]) [1, 2, 0] dd_X12_tide_23 rfl (by decide) rfl ?_
    refine ev_iconst (v := 0) dd_X12_tide_24 (by decide) ?_
    refine ev_istore_n (i := 3) (lv' := [(0, .ref (G.2.1 + t)), (1, .int a1), (2, .int 0), (3, .int 0)]) [1, 2, 3, 0] dd_X12_tide_25 rfl (by decide) rfl ?_
    refine ct_X12_tide_L26 l hl G t ht a1 _ (fun y2 M7 => ?_) zN _ _ _
    refine ev_iload_n dd_X12_tide_79 0 rfl ?_
    refine ev_lv (lv' := []) [] rfl ?_
    exact ev_iret dd_X12_tide_80 rfl (Nat.le_of_ble_eq_true rfl) rfl
  · refine ev_lv (lv' := []) [] rfl ?_
    refine ev_iconst (v := 0) dd_X12_tide_20 (by decide) ?_
    exact ev_iret dd_X12_tide_21 rfl (Nat.le_of_ble_eq_true rfl) rfl
/-! X12_undo -/
theorem dd_X12_undo_0 : decode Y_X12_undo.2.1 0 = .ok (.aload_n 0, 1) := by decide +kernel
theorem dd_X12_undo_1 : decode Y_X12_undo.2.1 1 = .ok (.iconst 0, 1) := by decide +kernel
theorem dd_X12_undo_2 : decode Y_X12_undo.2.1 2 = .ok (.putfield 153, 3) := by decide +kernel
theorem dd_X12_undo_5 : decode Y_X12_undo.2.1 5 = .ok (.aload_n 0, 1) := by decide +kernel
theorem dd_X12_undo_6 : decode Y_X12_undo.2.1 6 = .ok (.getfield 329, 3) := by decide +kernel
theorem dd_X12_undo_9 : decode Y_X12_undo.2.1 9 = .ok (.ifCond .ne 5, 3) := by decide +kernel
theorem dd_X12_undo_12 : decode Y_X12_undo.2.1 12 = .ok (.iconst (-1), 1) := by decide +kernel
theorem dd_X12_undo_13 : decode Y_X12_undo.2.1 13 = .ok (.ireturn, 1) := by decide +kernel
theorem dd_X12_undo_14 : decode Y_X12_undo.2.1 14 = .ok (.aload_n 0, 1) := by decide +kernel
theorem dd_X12_undo_15 : decode Y_X12_undo.2.1 15 = .ok (.dup, 1) := by decide +kernel
theorem dd_X12_undo_16 : decode Y_X12_undo.2.1 16 = .ok (.getfield 329, 3) := by decide +kernel
theorem dd_X12_undo_19 : decode Y_X12_undo.2.1 19 = .ok (.iconst 1, 1) := by decide +kernel
theorem dd_X12_undo_20 : decode Y_X12_undo.2.1 20 = .ok (.isub, 1) := by decide +kernel
theorem dd_X12_undo_21 : decode Y_X12_undo.2.1 21 = .ok (.putfield 329, 3) := by decide +kernel
theorem dd_X12_undo_24 : decode Y_X12_undo.2.1 24 = .ok (.iconst 0, 1) := by decide +kernel
theorem dd_X12_undo_25 : decode Y_X12_undo.2.1 25 = .ok (.istore_n 1, 1) := by decide +kernel
theorem dd_X12_undo_26 : decode Y_X12_undo.2.1 26 = .ok (.iload_n 1, 1) := by decide +kernel
theorem dd_X12_undo_27 : decode Y_X12_undo.2.1 27 = .ok (.bipush 73, 2) := by decide +kernel
theorem dd_X12_undo_29 : decode Y_X12_undo.2.1 29 = .ok (.if_icmp .ge 29, 3) := by decide +kernel
theorem dd_X12_undo_32 : decode Y_X12_undo.2.1 32 = .ok (.aload_n 0, 1) := by decide +kernel
theorem dd_X12_undo_33 : decode Y_X12_undo.2.1 33 = .ok (.getfield 87, 3) := by decide +kernel
theorem dd_X12_undo_36 : decode Y_X12_undo.2.1 36 = .ok (.iload_n 1, 1) := by decide +kernel
theorem dd_X12_undo_37 : decode Y_X12_undo.2.1 37 = .ok (.aload_n 0, 1) := by decide +kernel
theorem dd_X12_undo_38 : decode Y_X12_undo.2.1 38 = .ok (.getfield 93, 3) := by decide +kernel
theorem dd_X12_undo_41 : decode Y_X12_undo.2.1 41 = .ok (.bipush 73, 2) := by decide +kernel
theorem dd_X12_undo_43 : decode Y_X12_undo.2.1 43 = .ok (.aload_n 0, 1) := by decide +kernel
theorem dd_X12_undo_44 : decode Y_X12_undo.2.1 44 = .ok (.getfield 329, 3) := by decide +kernel
theorem dd_X12_undo_47 : decode Y_X12_undo.2.1 47 = .ok (.imul, 1) := by decide +kernel
theorem dd_X12_undo_48 : decode Y_X12_undo.2.1 48 = .ok (.iload_n 1, 1) := by decide +kernel
theorem dd_X12_undo_49 : decode Y_X12_undo.2.1 49 = .ok (.iadd, 1) := by decide +kernel
theorem dd_X12_undo_50 : decode Y_X12_undo.2.1 50 = .ok (.iaload, 1) := by decide +kernel
theorem dd_X12_undo_51 : decode Y_X12_undo.2.1 51 = .ok (.iastore, 1) := by decide +kernel
theorem dd_X12_undo_52 : decode Y_X12_undo.2.1 52 = .ok (.iinc 1 1, 3) := by decide +kernel
theorem dd_X12_undo_55 : decode Y_X12_undo.2.1 55 = .ok (.goto (-29), 3) := by decide +kernel
theorem dd_X12_undo_58 : decode Y_X12_undo.2.1 58 = .ok (.aload_n 0, 1) := by decide +kernel
theorem dd_X12_undo_59 : decode Y_X12_undo.2.1 59 = .ok (.getfield 329, 3) := by decide +kernel
theorem dd_X12_undo_62 : decode Y_X12_undo.2.1 62 = .ok (.ireturn, 1) := by decide +kernel
def F_X12_undo_L26 (x0 : Nat) (K58 : zM → zO) : Nat → Int32 → zM → zO
  | 0, _, _ => none
  | n + 1, x1, M => zit (73 ≤ x1) (K58 M) (zck (zin ((73 * (M x0 50)) + x1) 2920) (zck (zin x1 73) (zst (zup M (zgr x0 47) (zix x1) (M (zgr x0 49) (zix ((73 * (M x0 50)) + x1)))) (fun M3 => F_X12_undo_L26 x0 K58 n (x1 + 1) M3))))
def F_X12_undo (t : Nat) (M : zM) : zO := zst (zup M t 0 0) (fun M1 => zit ((M1 t 50) = 0) (zI (-1) M1) (zst (zup M1 t 50 ((M1 t 50) - 1)) (fun M2 => F_X12_undo_L26 t (fun  (M4 : zM) => zI (M4 t 50) M4) zN 0 M2)))
set_option maxHeartbeats 1000000 in
set_option maxRecDepth 20000 in
theorem ct_X12_undo_L26 (l : Launch) (hl : l.stackTraces = false) (G : zG) (x0 : Nat) (hx0 : zsh x0 = 12) (K58 : zM → zO) (hK58 : ∀  (M : zM), zEv l G Y_X12_undo 1 0 58 [(0, .ref (G.2.1 + x0))] [] M (K58 M)) : ∀ (n : Nat) (x1 : Int32) (M : zM), zEv l G Y_X12_undo 1 0 26 [(0, .ref (G.2.1 + x0)), (1, .int x1)] [] M (F_X12_undo_L26 x0 K58 n x1 M) := by
  intro n
  induction n with
  | zero => intro x1 M; exact ev_none
  | succ n ih =>
    intro x1 M
    show zEv l G Y_X12_undo 1 0 26 [(0, .ref (G.2.1 + x0)), (1, .int x1)] [] M (zit (73 ≤ x1) (K58 M) (zck (zin ((73 * (M x0 50)) + x1) 2920) (zck (zin x1 73) (zst (zup M (zgr x0 47) (zix x1) (M (zgr x0 49) (zix ((73 * (M x0 50)) + x1)))) (fun M3 => F_X12_undo_L26 x0 K58 n (x1 + 1) M3)))))
    refine ev_iload_n dd_X12_undo_26 1 rfl ?_
    refine ev_bipush (v := 73) dd_X12_undo_27 (by decide) ?_
    refine ev_icmp_ge 58 dd_X12_undo_29 (by decide) ?_ ?_
    · refine ev_lv (lv' := [(0, .ref (G.2.1 + x0))]) [0] rfl ?_
      exact hK58 _
    · refine ev_aload_n dd_X12_undo_32 0 rfl ?_
      refine ev_getR gf_RX12_87 dd_X12_undo_33 hx0 (by decide) ?_
      refine ev_iload_n dd_X12_undo_36 1 rfl ?_
      refine ev_aload_n dd_X12_undo_37 0 rfl ?_
      refine ev_getR gf_RX12_93 dd_X12_undo_38 hx0 (by decide) ?_
      refine ev_bipush (v := 73) dd_X12_undo_41 (by decide) ?_
      refine ev_aload_n dd_X12_undo_43 0 rfl ?_
      refine ev_getI gf_RX12_329 dd_X12_undo_44 hx0 (by decide) ?_
      refine ev_imul dd_X12_undo_47 ?_
      refine ev_iload_n dd_X12_undo_48 1 rfl ?_
      refine ev_iadd dd_X12_undo_49 ?_
      refine ev_iald dd_X12_undo_50 ((zg_12_49 hx0).1) ((zg_12_49 hx0).2) ?_
      refine ev_iast dd_X12_undo_51 ((zg_12_47 hx0).1) ((zg_12_47 hx0).2) ?_
      refine ev_st (fun M3 => ?_)
      refine ev_iinc (j := 1) (v := 1) (lv' := [(0, .ref (G.2.1 + x0)), (1, .int (x1 + 1))]) [1, 0] dd_X12_undo_52 rfl (by decide) (by decide) rfl ?_
      refine ev_goto 26 dd_X12_undo_55 (by decide) ?_
      exact ih _ _
set_option maxHeartbeats 1000000 in
set_option maxRecDepth 20000 in
theorem ct_X12_undo (l : Launch) (hl : l.stackTraces = false) (G : zG) (t : Nat) (ht : zsh t = 12) (M : zM) : zMt l G Y_X12_undo 1 [.ref (G.2.1 + t)] M (F_X12_undo t M) := by
  refine zMt_of (by decide +kernel) (Nat.le_of_ble_eq_true rfl) ?_
  show zEv l G Y_X12_undo 1 0 0 [(0, .ref (G.2.1 + t))] [] M (zst (zup M t 0 0) (fun M1 => zit ((M1 t 50) = 0) (zI (-1) M1) (zst (zup M1 t 50 ((M1 t 50) - 1)) (fun M2 => F_X12_undo_L26 t (fun  (M4 : zM) => zI (M4 t 50) M4) zN 0 M2))))
  refine ev_aload_n dd_X12_undo_0 0 rfl ?_
  refine ev_iconst (v := 0) dd_X12_undo_1 (by decide) ?_
  refine ev_putI gw_RX12_153 dd_X12_undo_2 ht (by decide) ?_
  refine ev_st (fun M1 => ?_)
  refine ev_aload_n dd_X12_undo_5 0 rfl ?_
  refine ev_getI gf_RX12_329 dd_X12_undo_6 ht (by decide) ?_
  refine ev_if_ne 14 dd_X12_undo_9 (by decide) ?_ ?_
  · refine ev_aload_n dd_X12_undo_14 0 rfl ?_
    refine ev_dup dd_X12_undo_15 rfl ?_
    refine ev_getI gf_RX12_329 dd_X12_undo_16 ht (by decide) ?_
    refine ev_iconst (v := 1) dd_X12_undo_19 (by decide) ?_
    refine ev_isub dd_X12_undo_20 ?_
    refine ev_putI gw_RX12_329 dd_X12_undo_21 ht (by decide) ?_
    refine ev_st (fun M2 => ?_)
    refine ev_iconst (v := 0) dd_X12_undo_24 (by decide) ?_
    refine ev_istore_n (i := 1) (lv' := [(0, .ref (G.2.1 + t)), (1, .int 0)]) [1, 0] dd_X12_undo_25 rfl (by decide) rfl ?_
    refine ct_X12_undo_L26 l hl G t ht _ (fun M4 => ?_) zN _ _
    refine ev_aload_n dd_X12_undo_58 0 rfl ?_
    refine ev_lv (lv' := []) [] rfl ?_
    refine ev_getI gf_RX12_329 dd_X12_undo_59 ht (by decide) ?_
    exact ev_iret dd_X12_undo_62 rfl (Nat.le_of_ble_eq_true rfl) rfl
  · refine ev_lv (lv' := []) [] rfl ?_
    refine ev_iconst (v := (-1)) dd_X12_undo_12 (by decide) ?_
    exact ev_iret dd_X12_undo_13 rfl (Nat.le_of_ble_eq_true rfl) rfl
/-! X12_vowel -/
theorem dd_X12_vowel_0 : decode Y_X12_vowel.2.1 0 = .ok (.iconst 0, 1) := by decide +kernel
theorem dd_X12_vowel_1 : decode Y_X12_vowel.2.1 1 = .ok (.istore_n 2, 1) := by decide +kernel
theorem dd_X12_vowel_2 : decode Y_X12_vowel.2.1 2 = .ok (.iload_n 2, 1) := by decide +kernel
theorem dd_X12_vowel_3 : decode Y_X12_vowel.2.1 3 = .ok (.aload_n 0, 1) := by decide +kernel
theorem dd_X12_vowel_4 : decode Y_X12_vowel.2.1 4 = .ok (.getfield 20, 3) := by decide +kernel
theorem dd_X12_vowel_7 : decode Y_X12_vowel.2.1 7 = .ok (.iload_n 1, 1) := by decide +kernel
theorem dd_X12_vowel_8 : decode Y_X12_vowel.2.1 8 = .ok (.iaload, 1) := by decide +kernel
theorem dd_X12_vowel_9 : decode Y_X12_vowel.2.1 9 = .ok (.if_icmp .ge 51, 3) := by decide +kernel
theorem dd_X12_vowel_12 : decode Y_X12_vowel.2.1 12 = .ok (.aload_n 0, 1) := by decide +kernel
theorem dd_X12_vowel_13 : decode Y_X12_vowel.2.1 13 = .ok (.getfield 16, 3) := by decide +kernel
theorem dd_X12_vowel_16 : decode Y_X12_vowel.2.1 16 = .ok (.bipush 9, 2) := by decide +kernel
theorem dd_X12_vowel_18 : decode Y_X12_vowel.2.1 18 = .ok (.iload_n 1, 1) := by decide +kernel
theorem dd_X12_vowel_19 : decode Y_X12_vowel.2.1 19 = .ok (.imul, 1) := by decide +kernel
theorem dd_X12_vowel_20 : decode Y_X12_vowel.2.1 20 = .ok (.iload_n 2, 1) := by decide +kernel
theorem dd_X12_vowel_21 : decode Y_X12_vowel.2.1 21 = .ok (.iadd, 1) := by decide +kernel
theorem dd_X12_vowel_22 : decode Y_X12_vowel.2.1 22 = .ok (.iaload, 1) := by decide +kernel
theorem dd_X12_vowel_23 : decode Y_X12_vowel.2.1 23 = .ok (.istore_n 3, 1) := by decide +kernel
theorem dd_X12_vowel_24 : decode Y_X12_vowel.2.1 24 = .ok (.iload_n 3, 1) := by decide +kernel
theorem dd_X12_vowel_25 : decode Y_X12_vowel.2.1 25 = .ok (.iconst 1, 1) := by decide +kernel
theorem dd_X12_vowel_26 : decode Y_X12_vowel.2.1 26 = .ok (.if_icmp .eq 26, 3) := by decide +kernel
theorem dd_X12_vowel_29 : decode Y_X12_vowel.2.1 29 = .ok (.iload_n 3, 1) := by decide +kernel
theorem dd_X12_vowel_30 : decode Y_X12_vowel.2.1 30 = .ok (.iconst 5, 1) := by decide +kernel
theorem dd_X12_vowel_31 : decode Y_X12_vowel.2.1 31 = .ok (.if_icmp .eq 21, 3) := by decide +kernel
theorem dd_X12_vowel_34 : decode Y_X12_vowel.2.1 34 = .ok (.iload_n 3, 1) := by decide +kernel
theorem dd_X12_vowel_35 : decode Y_X12_vowel.2.1 35 = .ok (.bipush 9, 2) := by decide +kernel
theorem dd_X12_vowel_37 : decode Y_X12_vowel.2.1 37 = .ok (.if_icmp .eq 15, 3) := by decide +kernel
theorem dd_X12_vowel_40 : decode Y_X12_vowel.2.1 40 = .ok (.iload_n 3, 1) := by decide +kernel
theorem dd_X12_vowel_41 : decode Y_X12_vowel.2.1 41 = .ok (.bipush 15, 2) := by decide +kernel
theorem dd_X12_vowel_43 : decode Y_X12_vowel.2.1 43 = .ok (.if_icmp .eq 9, 3) := by decide +kernel
theorem dd_X12_vowel_46 : decode Y_X12_vowel.2.1 46 = .ok (.iload_n 3, 1) := by decide +kernel
theorem dd_X12_vowel_47 : decode Y_X12_vowel.2.1 47 = .ok (.bipush 21, 2) := by decide +kernel
theorem dd_X12_vowel_49 : decode Y_X12_vowel.2.1 49 = .ok (.if_icmp .ne 5, 3) := by decide +kernel
theorem dd_X12_vowel_52 : decode Y_X12_vowel.2.1 52 = .ok (.iload_n 2, 1) := by decide +kernel
theorem dd_X12_vowel_53 : decode Y_X12_vowel.2.1 53 = .ok (.ireturn, 1) := by decide +kernel
theorem dd_X12_vowel_54 : decode Y_X12_vowel.2.1 54 = .ok (.iinc 2 1, 3) := by decide +kernel
theorem dd_X12_vowel_57 : decode Y_X12_vowel.2.1 57 = .ok (.goto (-55), 3) := by decide +kernel
theorem dd_X12_vowel_60 : decode Y_X12_vowel.2.1 60 = .ok (.iconst 0, 1) := by decide +kernel
theorem dd_X12_vowel_61 : decode Y_X12_vowel.2.1 61 = .ok (.ireturn, 1) := by decide +kernel
def F_X12_vowel_L2 (x0 : Nat) (x1 : Int32) (K60 : zM → zO) : Nat → Int32 → zM → zO
  | 0, _, _ => none
  | n + 1, x2, M => zck (zin x1 8) (zit ((M (zgr x0 6) (zix x1)) ≤ x2) (K60 M) (zck (zin ((9 * x1) + x2) 72) (zlt (M (zgr x0 5) (zix ((9 * x1) + x2))) (fun v1 => zjo (fun  (M1 : zM) => zI x2 M1) (fun (k1 : zM → zO) => zit (v1 = 1) (k1 M) (zit (v1 = 5) (k1 M) (zit (v1 = 9) (k1 M) (zit (v1 = 15) (k1 M) (zit (v1 = 21) (k1 M) (F_X12_vowel_L2 x0 x1 K60 n (x2 + 1) M))))))))))
def F_X12_vowel (t : Nat) (a1 : Int32) (M : zM) : zO := F_X12_vowel_L2 t a1 (fun  (M2 : zM) => zI 0 M2) zN 0 M
set_option maxHeartbeats 1000000 in
set_option maxRecDepth 20000 in
theorem ct_X12_vowel_L2 (l : Launch) (hl : l.stackTraces = false) (G : zG) (x0 : Nat) (hx0 : zsh x0 = 12) (x1 : Int32) (K60 : zM → zO) (hK60 : ∀  (M : zM), zEv l G Y_X12_vowel 1 0 60 [] [] M (K60 M)) : ∀ (n : Nat) (x2 : Int32) (M : zM), zEv l G Y_X12_vowel 1 0 2 [(0, .ref (G.2.1 + x0)), (1, .int x1), (2, .int x2)] [] M (F_X12_vowel_L2 x0 x1 K60 n x2 M) := by
  intro n
  induction n with
  | zero => intro x2 M; exact ev_none
  | succ n ih =>
    intro x2 M
    show zEv l G Y_X12_vowel 1 0 2 [(0, .ref (G.2.1 + x0)), (1, .int x1), (2, .int x2)] [] M (zck (zin x1 8) (zit ((M (zgr x0 6) (zix x1)) ≤ x2) (K60 M) (zck (zin ((9 * x1) + x2) 72) (zlt (M (zgr x0 5) (zix ((9 * x1) + x2))) (fun v1 => zjo (fun  (M1 : zM) => zI x2 M1) (fun (k1 : zM → zO) => zit (v1 = 1) (k1 M) (zit (v1 = 5) (k1 M) (zit (v1 = 9) (k1 M) (zit (v1 = 15) (k1 M) (zit (v1 = 21) (k1 M) (F_X12_vowel_L2 x0 x1 K60 n (x2 + 1) M)))))))))))
    refine ev_iload_n dd_X12_vowel_2 2 rfl ?_
    refine ev_aload_n dd_X12_vowel_3 0 rfl ?_
    refine ev_getR gf_RX12_20 dd_X12_vowel_4 hx0 (by decide) ?_
    refine ev_iload_n dd_X12_vowel_7 1 rfl ?_
    refine ev_iald dd_X12_vowel_8 ((zg_12_6 hx0).1) ((zg_12_6 hx0).2) ?_
    refine ev_icmp_ge 60 dd_X12_vowel_9 (by decide) ?_ ?_
    · refine ev_lv (lv' := []) [] rfl ?_
      exact hK60 _
    · refine ev_aload_n dd_X12_vowel_12 0 rfl ?_
      refine ev_getR gf_RX12_16 dd_X12_vowel_13 hx0 (by decide) ?_
      refine ev_bipush (v := 9) dd_X12_vowel_16 (by decide) ?_
      refine ev_iload_n dd_X12_vowel_18 1 rfl ?_
      refine ev_imul dd_X12_vowel_19 ?_
      refine ev_iload_n dd_X12_vowel_20 2 rfl ?_
      refine ev_iadd dd_X12_vowel_21 ?_
      refine ev_iald dd_X12_vowel_22 ((zg_12_5 hx0).1) ((zg_12_5 hx0).2) ?_
      refine ev_topi (fun v1 => ?_)
      refine ev_istore_n (i := 3) (lv' := [(0, .ref (G.2.1 + x0)), (1, .int x1), (2, .int x2), (3, .int v1)]) [1, 2, 3, 0] dd_X12_vowel_23 rfl (by decide) rfl ?_
      refine ev_iload_n dd_X12_vowel_24 3 rfl ?_
      refine ev_iconst (v := 1) dd_X12_vowel_25 (by decide) ?_
      refine ev_jo (fun (k1 : zM → zO) => ∀  (M1 : zM), zEv l G Y_X12_vowel 1 0 52 [(2, .int x2)] [] M1 (k1 M1)) ?_ (fun k1 hk1 => ?_)
      · intro M1
        refine ev_iload_n dd_X12_vowel_52 0 rfl ?_
        refine ev_lv (lv' := []) [] rfl ?_
        exact ev_iret dd_X12_vowel_53 rfl (Nat.le_of_ble_eq_true rfl) rfl
      · refine ev_icmp_eq 52 dd_X12_vowel_26 (by decide) ?_ ?_
        · refine ev_lv (lv' := [(2, .int x2)]) [2] rfl ?_
          exact hk1 _
        · refine ev_iload_n dd_X12_vowel_29 3 rfl ?_
          refine ev_iconst (v := 5) dd_X12_vowel_30 (by decide) ?_
          refine ev_icmp_eq 52 dd_X12_vowel_31 (by decide) ?_ ?_
          · refine ev_lv (lv' := [(2, .int x2)]) [2] rfl ?_
            exact hk1 _
          · refine ev_iload_n dd_X12_vowel_34 3 rfl ?_
            refine ev_bipush (v := 9) dd_X12_vowel_35 (by decide) ?_
            refine ev_icmp_eq 52 dd_X12_vowel_37 (by decide) ?_ ?_
            · refine ev_lv (lv' := [(2, .int x2)]) [2] rfl ?_
              exact hk1 _
            · refine ev_iload_n dd_X12_vowel_40 3 rfl ?_
              refine ev_bipush (v := 15) dd_X12_vowel_41 (by decide) ?_
              refine ev_icmp_eq 52 dd_X12_vowel_43 (by decide) ?_ ?_
              · refine ev_lv (lv' := [(2, .int x2)]) [2] rfl ?_
                exact hk1 _
              · refine ev_iload_n dd_X12_vowel_46 3 rfl ?_
                refine ev_lv (lv' := [(0, .ref (G.2.1 + x0)), (1, .int x1), (2, .int x2)]) [0, 1, 2] rfl ?_
                refine ev_bipush (v := 21) dd_X12_vowel_47 (by decide) ?_
                refine ev_icmp_ne 54 dd_X12_vowel_49 (by decide) ?_ ?_
                · refine ev_iinc (j := 2) (v := 1) (lv' := [(0, .ref (G.2.1 + x0)), (1, .int x1), (2, .int (x2 + 1))]) [1, 2, 0] dd_X12_vowel_54 rfl (by decide) (by decide) rfl ?_
                  refine ev_goto 2 dd_X12_vowel_57 (by decide) ?_
                  exact ih _ _
                · refine ev_lv (lv' := [(2, .int x2)]) [2] rfl ?_
                  exact hk1 _
set_option maxHeartbeats 1000000 in
set_option maxRecDepth 20000 in
theorem ct_X12_vowel (l : Launch) (hl : l.stackTraces = false) (G : zG) (t : Nat) (ht : zsh t = 12) (a1 : Int32) (M : zM) : zMt l G Y_X12_vowel 1 [.ref (G.2.1 + t), .int a1] M (F_X12_vowel t a1 M) := by
  refine zMt_of (by decide +kernel) (Nat.le_of_ble_eq_true rfl) ?_
  show zEv l G Y_X12_vowel 1 0 0 [(0, .ref (G.2.1 + t)), (1, .int a1)] [] M (F_X12_vowel_L2 t a1 (fun  (M2 : zM) => zI 0 M2) zN 0 M)
  refine ev_iconst (v := 0) dd_X12_vowel_0 (by decide) ?_
  refine ev_istore_n (i := 2) (lv' := [(0, .ref (G.2.1 + t)), (1, .int a1), (2, .int 0)]) [1, 2, 0] dd_X12_vowel_1 rfl (by decide) rfl ?_
  refine ct_X12_vowel_L2 l hl G t ht a1 _ (fun M2 => ?_) zN _ _
  refine ev_iconst (v := 0) dd_X12_vowel_60 (by decide) ?_
  exact ev_iret dd_X12_vowel_61 rfl (Nat.le_of_ble_eq_true rfl) rfl
/-! X12_weather -/
theorem dd_X12_weather_0 : decode Y_X12_weather.2.1 0 = .ok (.aload_n 0, 1) := by decide +kernel
theorem dd_X12_weather_1 : decode Y_X12_weather.2.1 1 = .ok (.iconst 0, 1) := by decide +kernel
theorem dd_X12_weather_2 : decode Y_X12_weather.2.1 2 = .ok (.putfield 153, 3) := by decide +kernel
theorem dd_X12_weather_5 : decode Y_X12_weather.2.1 5 = .ok (.aload_n 0, 1) := by decide +kernel
theorem dd_X12_weather_6 : decode Y_X12_weather.2.1 6 = .ok (.iload_n 1, 1) := by decide +kernel
theorem dd_X12_weather_7 : decode Y_X12_weather.2.1 7 = .ok (.iconst 0, 1) := by decide +kernel
theorem dd_X12_weather_8 : decode Y_X12_weather.2.1 8 = .ok (.bipush 60, 2) := by decide +kernel
theorem dd_X12_weather_10 : decode Y_X12_weather.2.1 10 = .ok (.invokestatic 339, 3) := by decide +kernel
theorem dd_X12_weather_13 : decode Y_X12_weather.2.1 13 = .ok (.ifCond .eq 27, 3) := by decide +kernel
theorem dd_X12_weather_16 : decode Y_X12_weather.2.1 16 = .ok (.iload_n 2, 1) := by decide +kernel
theorem dd_X12_weather_17 : decode Y_X12_weather.2.1 17 = .ok (.iconst 0, 1) := by decide +kernel
theorem dd_X12_weather_18 : decode Y_X12_weather.2.1 18 = .ok (.bipush 60, 2) := by decide +kernel
theorem dd_X12_weather_20 : decode Y_X12_weather.2.1 20 = .ok (.invokestatic 339, 3) := by decide +kernel
theorem dd_X12_weather_23 : decode Y_X12_weather.2.1 23 = .ok (.ifCond .eq 17, 3) := by decide +kernel
theorem dd_X12_weather_26 : decode Y_X12_weather.2.1 26 = .ok (.iload_n 3, 1) := by decide +kernel
theorem dd_X12_weather_27 : decode Y_X12_weather.2.1 27 = .ok (.iconst 0, 1) := by decide +kernel
theorem dd_X12_weather_28 : decode Y_X12_weather.2.1 28 = .ok (.bipush 120, 2) := by decide +kernel
theorem dd_X12_weather_30 : decode Y_X12_weather.2.1 30 = .ok (.invokestatic 339, 3) := by decide +kernel
theorem dd_X12_weather_33 : decode Y_X12_weather.2.1 33 = .ok (.ifCond .eq 7, 3) := by decide +kernel
theorem dd_X12_weather_36 : decode Y_X12_weather.2.1 36 = .ok (.iconst 1, 1) := by decide +kernel
theorem dd_X12_weather_37 : decode Y_X12_weather.2.1 37 = .ok (.goto 4, 3) := by decide +kernel
theorem dd_X12_weather_40 : decode Y_X12_weather.2.1 40 = .ok (.iconst 0, 1) := by decide +kernel
theorem dd_X12_weather_41 : decode Y_X12_weather.2.1 41 = .ok (.iconst 1, 1) := by decide +kernel
theorem dd_X12_weather_42 : decode Y_X12_weather.2.1 42 = .ok (.invokevirtual 312, 3) := by decide +kernel
theorem dd_X12_weather_45 : decode Y_X12_weather.2.1 45 = .ok (.ifCond .ne 5, 3) := by decide +kernel
theorem dd_X12_weather_48 : decode Y_X12_weather.2.1 48 = .ok (.iconst 0, 1) := by decide +kernel
theorem dd_X12_weather_49 : decode Y_X12_weather.2.1 49 = .ok (.ireturn, 1) := by decide +kernel
theorem dd_X12_weather_50 : decode Y_X12_weather.2.1 50 = .ok (.iconst 0, 1) := by decide +kernel
theorem dd_X12_weather_51 : decode Y_X12_weather.2.1 51 = .ok (.istore 4, 2) := by decide +kernel
theorem dd_X12_weather_53 : decode Y_X12_weather.2.1 53 = .ok (.iconst 0, 1) := by decide +kernel
theorem dd_X12_weather_54 : decode Y_X12_weather.2.1 54 = .ok (.istore 5, 2) := by decide +kernel
theorem dd_X12_weather_56 : decode Y_X12_weather.2.1 56 = .ok (.iload 5, 2) := by decide +kernel
theorem dd_X12_weather_58 : decode Y_X12_weather.2.1 58 = .ok (.aload_n 0, 1) := by decide +kernel
theorem dd_X12_weather_59 : decode Y_X12_weather.2.1 59 = .ok (.getfield 319, 3) := by decide +kernel
theorem dd_X12_weather_62 : decode Y_X12_weather.2.1 62 = .ok (.if_icmp .ge 66, 3) := by decide +kernel
theorem dd_X12_weather_65 : decode Y_X12_weather.2.1 65 = .ok (.aload_n 0, 1) := by decide +kernel
theorem dd_X12_weather_66 : decode Y_X12_weather.2.1 66 = .ok (.getfield 87, 3) := by decide +kernel
theorem dd_X12_weather_69 : decode Y_X12_weather.2.1 69 = .ok (.iload 5, 2) := by decide +kernel
theorem dd_X12_weather_71 : decode Y_X12_weather.2.1 71 = .ok (.iaload, 1) := by decide +kernel
theorem dd_X12_weather_72 : decode Y_X12_weather.2.1 72 = .ok (.istore 6, 2) := by decide +kernel
theorem dd_X12_weather_74 : decode Y_X12_weather.2.1 74 = .ok (.iload 4, 2) := by decide +kernel
theorem dd_X12_weather_76 : decode Y_X12_weather.2.1 76 = .ok (.aload_n 0, 1) := by decide +kernel
theorem dd_X12_weather_77 : decode Y_X12_weather.2.1 77 = .ok (.getfield 29, 3) := by decide +kernel
theorem dd_X12_weather_80 : decode Y_X12_weather.2.1 80 = .ok (.iload 6, 2) := by decide +kernel
theorem dd_X12_weather_82 : decode Y_X12_weather.2.1 82 = .ok (.iaload, 1) := by decide +kernel
theorem dd_X12_weather_83 : decode Y_X12_weather.2.1 83 = .ok (.iconst 2, 1) := by decide +kernel
theorem dd_X12_weather_84 : decode Y_X12_weather.2.1 84 = .ok (.if_icmp .ne 34, 3) := by decide +kernel
theorem dd_X12_weather_87 : decode Y_X12_weather.2.1 87 = .ok (.aload_n 0, 1) := by decide +kernel
theorem dd_X12_weather_88 : decode Y_X12_weather.2.1 88 = .ok (.getfield 23, 3) := by decide +kernel
theorem dd_X12_weather_91 : decode Y_X12_weather.2.1 91 = .ok (.iload 6, 2) := by decide +kernel
theorem dd_X12_weather_93 : decode Y_X12_weather.2.1 93 = .ok (.iaload, 1) := by decide +kernel
theorem dd_X12_weather_94 : decode Y_X12_weather.2.1 94 = .ok (.iload_n 1, 1) := by decide +kernel
theorem dd_X12_weather_95 : decode Y_X12_weather.2.1 95 = .ok (.invokestatic 364, 3) := by decide +kernel
theorem dd_X12_weather_98 : decode Y_X12_weather.2.1 98 = .ok (.aload_n 0, 1) := by decide +kernel
theorem dd_X12_weather_99 : decode Y_X12_weather.2.1 99 = .ok (.getfield 26, 3) := by decide +kernel
theorem dd_X12_weather_102 : decode Y_X12_weather.2.1 102 = .ok (.iload 6, 2) := by decide +kernel
theorem dd_X12_weather_104 : decode Y_X12_weather.2.1 104 = .ok (.iaload, 1) := by decide +kernel
theorem dd_X12_weather_105 : decode Y_X12_weather.2.1 105 = .ok (.iload_n 2, 1) := by decide +kernel
theorem dd_X12_weather_106 : decode Y_X12_weather.2.1 106 = .ok (.invokestatic 364, 3) := by decide +kernel
theorem dd_X12_weather_109 : decode Y_X12_weather.2.1 109 = .ok (.iadd, 1) := by decide +kernel
theorem dd_X12_weather_110 : decode Y_X12_weather.2.1 110 = .ok (.iload_n 3, 1) := by decide +kernel
theorem dd_X12_weather_111 : decode Y_X12_weather.2.1 111 = .ok (.if_icmp .gt 7, 3) := by decide +kernel
theorem dd_X12_weather_114 : decode Y_X12_weather.2.1 114 = .ok (.iconst 1, 1) := by decide +kernel
theorem dd_X12_weather_115 : decode Y_X12_weather.2.1 115 = .ok (.goto 4, 3) := by decide +kernel
theorem dd_X12_weather_118 : decode Y_X12_weather.2.1 118 = .ok (.iconst 0, 1) := by decide +kernel
theorem dd_X12_weather_119 : decode Y_X12_weather.2.1 119 = .ok (.iadd, 1) := by decide +kernel
theorem dd_X12_weather_120 : decode Y_X12_weather.2.1 120 = .ok (.istore 4, 2) := by decide +kernel
theorem dd_X12_weather_122 : decode Y_X12_weather.2.1 122 = .ok (.iinc 5 1, 3) := by decide +kernel
theorem dd_X12_weather_125 : decode Y_X12_weather.2.1 125 = .ok (.goto (-69), 3) := by decide +kernel
theorem dd_X12_weather_128 : decode Y_X12_weather.2.1 128 = .ok (.iload 4, 2) := by decide +kernel
theorem dd_X12_weather_130 : decode Y_X12_weather.2.1 130 = .ok (.ireturn, 1) := by decide +kernel
def F_X12_weather_L56 (x0 : Nat) (x1 : Int32) (x2 : Int32) (x3 : Int32) (K128 : Int32 → zM → zO) : Nat → Int32 → Int32 → zM → zO
  | 0, _, _, _ => none
  | n + 1, x4, x5, M => zit ((M x0 1) ≤ x5) (K128 x4 M) (zck (zin x5 73) (zlt (M (zgr x0 47) (zix x5)) (fun v1 => zck (zin v1 8) (zjo (fun (w2 : Int32) (M11 : zM) => zlt (x4 + w2) (fun v2 => F_X12_weather_L56 x0 x1 x2 x3 K128 n v2 (x5 + 1) M11)) (fun (k3 : Int32 → zM → zO) => zjo (fun  (M10 : zM) => k3 0 M10) (fun (k4 : zM → zO) => zit ((M (zgr x0 9) (zix v1)) = 2) (zck (zin v1 8) (zbI (F_X12_off (M (zgr x0 7) (zix v1)) x1 M) (fun r5 M8 => zck (zin v1 8) (zbI (F_X12_off (M8 (zgr x0 8) (zix v1)) x2 M8) (fun r6 M9 => zit (x3 < (r5 + r6)) (k4 M9) (k3 1 M9)))))) (k4 M)))))))
def F_X12_weather (t : Nat) (a1 : Int32) (a2 : Int32) (a3 : Int32) (M : zM) : zO := zst (zup M t 0 0) (fun M1 => zbI (F_X12_within a1 0 60 M1) (fun r1 M2 => zjo (fun (w1 : Int32) (M6 : zM) => zbI (F_X12_right t w1 1 M6) (fun r4 M7 => zit (r4 = 0) (zI 0 M7) (F_X12_weather_L56 t a1 a2 a3 (fun (y1 : Int32) (M12 : zM) => zI y1 M12) zN 0 0 M7))) (fun (k1 : Int32 → zM → zO) => zjo (fun  (M5 : zM) => k1 0 M5) (fun (k2 : zM → zO) => zit (r1 = 0) (k2 M2) (zbI (F_X12_within a2 0 60 M2) (fun r2 M3 => zit (r2 = 0) (k2 M3) (zbI (F_X12_within a3 0 120 M3) (fun r3 M4 => zit (r3 = 0) (k2 M4) (k1 1 M4)))))))))
set_option maxHeartbeats 1000000 in
set_option maxRecDepth 20000 in
theorem ct_X12_weather_L56 (l : Launch) (hl : l.stackTraces = false) (G : zG) (x0 : Nat) (hx0 : zsh x0 = 12) (x1 : Int32) (x2 : Int32) (x3 : Int32) (K128 : Int32 → zM → zO) (hK128 : ∀ (x4 : Int32) (M : zM), zEv l G Y_X12_weather 2 0 128 [(4, .int x4)] [] M (K128 x4 M)) : ∀ (n : Nat) (x4 : Int32) (x5 : Int32) (M : zM), zEv l G Y_X12_weather 2 0 56 [(0, .ref (G.2.1 + x0)), (1, .int x1), (2, .int x2), (3, .int x3), (4, .int x4), (5, .int x5)] [] M (F_X12_weather_L56 x0 x1 x2 x3 K128 n x4 x5 M) := by
  intro n
  induction n with
  | zero => intro x4 x5 M; exact ev_none
  | succ n ih =>
    intro x4 x5 M
    show zEv l G Y_X12_weather 2 0 56 [(0, .ref (G.2.1 + x0)), (1, .int x1), (2, .int x2), (3, .int x3), (4, .int x4), (5, .int x5)] [] M (zit ((M x0 1) ≤ x5) (K128 x4 M) (zck (zin x5 73) (zlt (M (zgr x0 47) (zix x5)) (fun v1 => zck (zin v1 8) (zjo (fun (w2 : Int32) (M11 : zM) => zlt (x4 + w2) (fun v2 => F_X12_weather_L56 x0 x1 x2 x3 K128 n v2 (x5 + 1) M11)) (fun (k3 : Int32 → zM → zO) => zjo (fun  (M10 : zM) => k3 0 M10) (fun (k4 : zM → zO) => zit ((M (zgr x0 9) (zix v1)) = 2) (zck (zin v1 8) (zbI (F_X12_off (M (zgr x0 7) (zix v1)) x1 M) (fun r5 M8 => zck (zin v1 8) (zbI (F_X12_off (M8 (zgr x0 8) (zix v1)) x2 M8) (fun r6 M9 => zit (x3 < (r5 + r6)) (k4 M9) (k3 1 M9)))))) (k4 M))))))))
    refine ev_iload dd_X12_weather_56 5 rfl ?_
    refine ev_aload_n dd_X12_weather_58 0 rfl ?_
    refine ev_getI gf_RX12_319 dd_X12_weather_59 hx0 (by decide) ?_
    refine ev_icmp_ge 128 dd_X12_weather_62 (by decide) ?_ ?_
    · refine ev_lv (lv' := [(4, .int x4)]) [4] rfl ?_
      exact hK128 _ _
    · refine ev_aload_n dd_X12_weather_65 0 rfl ?_
      refine ev_getR gf_RX12_87 dd_X12_weather_66 hx0 (by decide) ?_
      refine ev_iload dd_X12_weather_69 5 rfl ?_
      refine ev_iald dd_X12_weather_71 ((zg_12_47 hx0).1) ((zg_12_47 hx0).2) ?_
      refine ev_topi (fun v1 => ?_)
      refine ev_istore (i := 6) (lv' := [(0, .ref (G.2.1 + x0)), (1, .int x1), (2, .int x2), (3, .int x3), (4, .int x4), (5, .int x5), (6, .int v1)]) [1, 2, 3, 4, 5, 6, 0] dd_X12_weather_72 (by decide) rfl ?_
      refine ev_iload dd_X12_weather_74 4 rfl ?_
      refine ev_lv (lv' := [(0, .ref (G.2.1 + x0)), (1, .int x1), (2, .int x2), (3, .int x3), (5, .int x5), (6, .int v1)]) [0, 1, 2, 3, 5, 6] rfl ?_
      refine ev_aload_n dd_X12_weather_76 0 rfl ?_
      refine ev_getR gf_RX12_29 dd_X12_weather_77 hx0 (by decide) ?_
      refine ev_iload dd_X12_weather_80 5 rfl ?_
      refine ev_iald dd_X12_weather_82 ((zg_12_9 hx0).1) ((zg_12_9 hx0).2) ?_
      refine ev_iconst (v := 2) dd_X12_weather_83 (by decide) ?_
      refine ev_jo (fun (k3 : Int32 → zM → zO) => ∀ (w2 : Int32) (M11 : zM), zEv l G Y_X12_weather 2 0 119 [(0, .ref (G.2.1 + x0)), (1, .int x1), (2, .int x2), (3, .int x3), (5, .int x5)] [.int w2, .int x4] M11 (k3 w2 M11)) ?_ (fun k3 hk3 => ?_)
      · intro w2 M11
        refine ev_iadd dd_X12_weather_119 ?_
        refine ev_topi (fun v2 => ?_)
        refine ev_istore (i := 4) (lv' := [(0, .ref (G.2.1 + x0)), (1, .int x1), (2, .int x2), (3, .int x3), (4, .int v2), (5, .int x5)]) [1, 2, 3, 4, 0, 5] dd_X12_weather_120 (by decide) rfl ?_
        refine ev_iinc (j := 5) (v := 1) (lv' := [(0, .ref (G.2.1 + x0)), (1, .int x1), (2, .int x2), (3, .int x3), (4, .int v2), (5, .int (x5 + 1))]) [1, 2, 3, 4, 5, 0] dd_X12_weather_122 rfl (by decide) (by decide) rfl ?_
        refine ev_goto 56 dd_X12_weather_125 (by decide) ?_
        exact ih _ _ _
      · refine ev_jo (fun (k4 : zM → zO) => ∀  (M10 : zM), zEv l G Y_X12_weather 2 0 118 [(0, .ref (G.2.1 + x0)), (1, .int x1), (2, .int x2), (3, .int x3), (5, .int x5)] [.int x4] M10 (k4 M10)) ?_ (fun k4 hk4 => ?_)
        · intro M10
          refine ev_iconst (v := 0) dd_X12_weather_118 (by decide) ?_
          exact hk3 _ _
        · refine ev_icmp_ne 118 dd_X12_weather_84 (by decide) ?_ ?_
          · refine ev_lv (lv' := [(0, .ref (G.2.1 + x0)), (1, .int x1), (2, .int x2), (3, .int x3), (5, .int x5)]) [0, 1, 2, 3, 4] rfl ?_
            exact hk4 _
          · refine ev_aload_n dd_X12_weather_87 0 rfl ?_
            refine ev_getR gf_RX12_23 dd_X12_weather_88 hx0 (by decide) ?_
            refine ev_iload dd_X12_weather_91 5 rfl ?_
            refine ev_iald dd_X12_weather_93 ((zg_12_7 hx0).1) ((zg_12_7 hx0).2) ?_
            refine ev_iload_n dd_X12_weather_94 1 rfl ?_
            refine ev_callSI (As := [.int (M (zgr x0 7) (zix v1)), .int x1]) cl_RX12_364 (ct_X12_off l hl G (M (zgr x0 7) (zix v1)) x1 M) dd_X12_weather_95 (by decide) (Nat.le_of_ble_eq_true rfl) (Nat.le_of_ble_eq_true rfl) rfl rfl (fun r5 M8 => ?_)
            refine ev_aload_n dd_X12_weather_98 0 rfl ?_
            refine ev_getR gf_RX12_26 dd_X12_weather_99 hx0 (by decide) ?_
            refine ev_iload dd_X12_weather_102 5 rfl ?_
            refine ev_lv (lv' := [(0, .ref (G.2.1 + x0)), (1, .int x1), (2, .int x2), (3, .int x3), (5, .int x5)]) [0, 1, 2, 3, 4] rfl ?_
            refine ev_iald dd_X12_weather_104 ((zg_12_8 hx0).1) ((zg_12_8 hx0).2) ?_
            refine ev_iload_n dd_X12_weather_105 2 rfl ?_
            refine ev_callSI (As := [.int (M8 (zgr x0 8) (zix v1)), .int x2]) cl_RX12_364 (ct_X12_off l hl G (M8 (zgr x0 8) (zix v1)) x2 M8) dd_X12_weather_106 (by decide) (Nat.le_of_ble_eq_true rfl) (Nat.le_of_ble_eq_true rfl) rfl rfl (fun r6 M9 => ?_)
            refine ev_iadd dd_X12_weather_109 ?_
            refine ev_iload_n dd_X12_weather_110 3 rfl ?_
            refine ev_icmp_gt 118 dd_X12_weather_111 (by decide) ?_ ?_
            · exact hk4 _
            · refine ev_iconst (v := 1) dd_X12_weather_114 (by decide) ?_
              refine ev_goto 119 dd_X12_weather_115 (by decide) ?_
              exact hk3 _ _
set_option maxHeartbeats 1000000 in
set_option maxRecDepth 20000 in
theorem ct_X12_weather (l : Launch) (hl : l.stackTraces = false) (G : zG) (t : Nat) (ht : zsh t = 12) (a1 : Int32) (a2 : Int32) (a3 : Int32) (M : zM) : zMt l G Y_X12_weather 2 [.ref (G.2.1 + t), .int a1, .int a2, .int a3] M (F_X12_weather t a1 a2 a3 M) := by
  refine zMt_of (by decide +kernel) (Nat.le_of_ble_eq_true rfl) ?_
  show zEv l G Y_X12_weather 2 0 0 [(0, .ref (G.2.1 + t)), (1, .int a1), (2, .int a2), (3, .int a3)] [] M (zst (zup M t 0 0) (fun M1 => zbI (F_X12_within a1 0 60 M1) (fun r1 M2 => zjo (fun (w1 : Int32) (M6 : zM) => zbI (F_X12_right t w1 1 M6) (fun r4 M7 => zit (r4 = 0) (zI 0 M7) (F_X12_weather_L56 t a1 a2 a3 (fun (y1 : Int32) (M12 : zM) => zI y1 M12) zN 0 0 M7))) (fun (k1 : Int32 → zM → zO) => zjo (fun  (M5 : zM) => k1 0 M5) (fun (k2 : zM → zO) => zit (r1 = 0) (k2 M2) (zbI (F_X12_within a2 0 60 M2) (fun r2 M3 => zit (r2 = 0) (k2 M3) (zbI (F_X12_within a3 0 120 M3) (fun r3 M4 => zit (r3 = 0) (k2 M4) (k1 1 M4))))))))))
  refine ev_aload_n dd_X12_weather_0 0 rfl ?_
  refine ev_iconst (v := 0) dd_X12_weather_1 (by decide) ?_
  refine ev_putI gw_RX12_153 dd_X12_weather_2 ht (by decide) ?_
  refine ev_st (fun M1 => ?_)
  refine ev_aload_n dd_X12_weather_5 0 rfl ?_
  refine ev_iload_n dd_X12_weather_6 1 rfl ?_
  refine ev_iconst (v := 0) dd_X12_weather_7 (by decide) ?_
  refine ev_bipush (v := 60) dd_X12_weather_8 (by decide) ?_
  refine ev_callSI (As := [.int a1, .int 0, .int 60]) cl_RX12_339 (ct_X12_within l hl G a1 0 60 M1) dd_X12_weather_10 (by decide) (Nat.le_of_ble_eq_true rfl) (Nat.le_of_ble_eq_true rfl) rfl rfl (fun r1 M2 => ?_)
  refine ev_jo (fun (k1 : Int32 → zM → zO) => ∀ (w1 : Int32) (M6 : zM), zEv l G Y_X12_weather 2 0 41 [(0, .ref (G.2.1 + t)), (1, .int a1), (2, .int a2), (3, .int a3)] [.int w1, .ref (G.2.1 + t)] M6 (k1 w1 M6)) ?_ (fun k1 hk1 => ?_)
  · intro w1 M6
    refine ev_iconst (v := 1) dd_X12_weather_41 (by decide) ?_
    refine ev_callVI (As := [.int w1, .int 1]) cl_RX12_312 (ct_X12_right l hl G t ht w1 1 M6) dd_X12_weather_42 ht (by decide) (Nat.le_of_ble_eq_true rfl) (Nat.le_of_ble_eq_true rfl) rfl rfl (fun r4 M7 => ?_)
    refine ev_if_ne 50 dd_X12_weather_45 (by decide) ?_ ?_
    · refine ev_iconst (v := 0) dd_X12_weather_50 (by decide) ?_
      refine ev_istore (i := 4) (lv' := [(0, .ref (G.2.1 + t)), (1, .int a1), (2, .int a2), (3, .int a3), (4, .int 0)]) [1, 2, 3, 4, 0] dd_X12_weather_51 (by decide) rfl ?_
      refine ev_iconst (v := 0) dd_X12_weather_53 (by decide) ?_
      refine ev_istore (i := 5) (lv' := [(0, .ref (G.2.1 + t)), (1, .int a1), (2, .int a2), (3, .int a3), (4, .int 0), (5, .int 0)]) [1, 2, 3, 4, 5, 0] dd_X12_weather_54 (by decide) rfl ?_
      refine ct_X12_weather_L56 l hl G t ht a1 a2 a3 _ (fun y1 M12 => ?_) zN _ _ _
      refine ev_iload dd_X12_weather_128 0 rfl ?_
      refine ev_lv (lv' := []) [] rfl ?_
      exact ev_iret dd_X12_weather_130 rfl (Nat.le_of_ble_eq_true rfl) rfl
    · refine ev_lv (lv' := []) [] rfl ?_
      refine ev_iconst (v := 0) dd_X12_weather_48 (by decide) ?_
      exact ev_iret dd_X12_weather_49 rfl (Nat.le_of_ble_eq_true rfl) rfl
  · refine ev_jo (fun (k2 : zM → zO) => ∀  (M5 : zM), zEv l G Y_X12_weather 2 0 40 [(0, .ref (G.2.1 + t)), (1, .int a1), (2, .int a2), (3, .int a3)] [.ref (G.2.1 + t)] M5 (k2 M5)) ?_ (fun k2 hk2 => ?_)
    · intro M5
      refine ev_iconst (v := 0) dd_X12_weather_40 (by decide) ?_
      exact hk1 _ _
    · refine ev_if_eq 40 dd_X12_weather_13 (by decide) ?_ ?_
      · exact hk2 _
      · refine ev_iload_n dd_X12_weather_16 2 rfl ?_
        refine ev_iconst (v := 0) dd_X12_weather_17 (by decide) ?_
        refine ev_bipush (v := 60) dd_X12_weather_18 (by decide) ?_
        refine ev_callSI (As := [.int a2, .int 0, .int 60]) cl_RX12_339 (ct_X12_within l hl G a2 0 60 M2) dd_X12_weather_20 (by decide) (Nat.le_of_ble_eq_true rfl) (Nat.le_of_ble_eq_true rfl) rfl rfl (fun r2 M3 => ?_)
        refine ev_if_eq 40 dd_X12_weather_23 (by decide) ?_ ?_
        · exact hk2 _
        · refine ev_iload_n dd_X12_weather_26 3 rfl ?_
          refine ev_iconst (v := 0) dd_X12_weather_27 (by decide) ?_
          refine ev_bipush (v := 120) dd_X12_weather_28 (by decide) ?_
          refine ev_callSI (As := [.int a3, .int 0, .int 120]) cl_RX12_339 (ct_X12_within l hl G a3 0 120 M3) dd_X12_weather_30 (by decide) (Nat.le_of_ble_eq_true rfl) (Nat.le_of_ble_eq_true rfl) rfl rfl (fun r3 M4 => ?_)
          refine ev_if_eq 40 dd_X12_weather_33 (by decide) ?_ ?_
          · exact hk2 _
          · refine ev_iconst (v := 1) dd_X12_weather_36 (by decide) ?_
            refine ev_goto 41 dd_X12_weather_37 (by decide) ?_
            exact hk1 _ _
/-! X12_worn -/
theorem dd_X12_worn_0 : decode Y_X12_worn.2.1 0 = .ok (.aload_n 0, 1) := by decide +kernel
theorem dd_X12_worn_1 : decode Y_X12_worn.2.1 1 = .ok (.iconst 0, 1) := by decide +kernel
theorem dd_X12_worn_2 : decode Y_X12_worn.2.1 2 = .ok (.putfield 153, 3) := by decide +kernel
theorem dd_X12_worn_5 : decode Y_X12_worn.2.1 5 = .ok (.aload_n 0, 1) := by decide +kernel
theorem dd_X12_worn_6 : decode Y_X12_worn.2.1 6 = .ok (.iload_n 1, 1) := by decide +kernel
theorem dd_X12_worn_7 : decode Y_X12_worn.2.1 7 = .ok (.invokevirtual 346, 3) := by decide +kernel
theorem dd_X12_worn_10 : decode Y_X12_worn.2.1 10 = .ok (.ifCond .eq 18, 3) := by decide +kernel
theorem dd_X12_worn_13 : decode Y_X12_worn.2.1 13 = .ok (.aload_n 0, 1) := by decide +kernel
theorem dd_X12_worn_14 : decode Y_X12_worn.2.1 14 = .ok (.iload_n 2, 1) := by decide +kernel
theorem dd_X12_worn_15 : decode Y_X12_worn.2.1 15 = .ok (.iconst 0, 1) := by decide +kernel
theorem dd_X12_worn_16 : decode Y_X12_worn.2.1 16 = .ok (.bipush 99, 2) := by decide +kernel
theorem dd_X12_worn_18 : decode Y_X12_worn.2.1 18 = .ok (.invokestatic 339, 3) := by decide +kernel
theorem dd_X12_worn_21 : decode Y_X12_worn.2.1 21 = .ok (.iconst 2, 1) := by decide +kernel
theorem dd_X12_worn_22 : decode Y_X12_worn.2.1 22 = .ok (.invokevirtual 312, 3) := by decide +kernel
theorem dd_X12_worn_25 : decode Y_X12_worn.2.1 25 = .ok (.ifCond .ne 5, 3) := by decide +kernel
theorem dd_X12_worn_28 : decode Y_X12_worn.2.1 28 = .ok (.iconst 0, 1) := by decide +kernel
theorem dd_X12_worn_29 : decode Y_X12_worn.2.1 29 = .ok (.ireturn, 1) := by decide +kernel
theorem dd_X12_worn_30 : decode Y_X12_worn.2.1 30 = .ok (.aload_n 0, 1) := by decide +kernel
theorem dd_X12_worn_31 : decode Y_X12_worn.2.1 31 = .ok (.iload_n 1, 1) := by decide +kernel
theorem dd_X12_worn_32 : decode Y_X12_worn.2.1 32 = .ok (.invokevirtual 444, 3) := by decide +kernel
theorem dd_X12_worn_35 : decode Y_X12_worn.2.1 35 = .ok (.istore 4, 2) := by decide +kernel
theorem dd_X12_worn_37 : decode Y_X12_worn.2.1 37 = .ok (.iconst 0, 1) := by decide +kernel
theorem dd_X12_worn_38 : decode Y_X12_worn.2.1 38 = .ok (.istore 5, 2) := by decide +kernel
theorem dd_X12_worn_40 : decode Y_X12_worn.2.1 40 = .ok (.aload_n 0, 1) := by decide +kernel
theorem dd_X12_worn_41 : decode Y_X12_worn.2.1 41 = .ok (.getfield 20, 3) := by decide +kernel
theorem dd_X12_worn_44 : decode Y_X12_worn.2.1 44 = .ok (.iload_n 1, 1) := by decide +kernel
theorem dd_X12_worn_45 : decode Y_X12_worn.2.1 45 = .ok (.iaload, 1) := by decide +kernel
theorem dd_X12_worn_46 : decode Y_X12_worn.2.1 46 = .ok (.istore 6, 2) := by decide +kernel
theorem dd_X12_worn_48 : decode Y_X12_worn.2.1 48 = .ok (.iconst 0, 1) := by decide +kernel
theorem dd_X12_worn_49 : decode Y_X12_worn.2.1 49 = .ok (.istore 7, 2) := by decide +kernel
theorem dd_X12_worn_51 : decode Y_X12_worn.2.1 51 = .ok (.iload 7, 2) := by decide +kernel
theorem dd_X12_worn_53 : decode Y_X12_worn.2.1 53 = .ok (.iload_n 2, 1) := by decide +kernel
theorem dd_X12_worn_54 : decode Y_X12_worn.2.1 54 = .ok (.if_icmp .ge 34, 3) := by decide +kernel
theorem dd_X12_worn_57 : decode Y_X12_worn.2.1 57 = .ok (.iload 6, 2) := by decide +kernel
theorem dd_X12_worn_59 : decode Y_X12_worn.2.1 59 = .ok (.iconst 1, 1) := by decide +kernel
theorem dd_X12_worn_60 : decode Y_X12_worn.2.1 60 = .ok (.isub, 1) := by decide +kernel
theorem dd_X12_worn_61 : decode Y_X12_worn.2.1 61 = .ok (.iload 4, 2) := by decide +kernel
theorem dd_X12_worn_63 : decode Y_X12_worn.2.1 63 = .ok (.if_icmp .le 9, 3) := by decide +kernel
theorem dd_X12_worn_66 : decode Y_X12_worn.2.1 66 = .ok (.iinc 6 (-1), 3) := by decide +kernel
theorem dd_X12_worn_69 : decode Y_X12_worn.2.1 69 = .ok (.goto 13, 3) := by decide +kernel
theorem dd_X12_worn_72 : decode Y_X12_worn.2.1 72 = .ok (.iload 5, 2) := by decide +kernel
theorem dd_X12_worn_74 : decode Y_X12_worn.2.1 74 = .ok (.iload 4, 2) := by decide +kernel
theorem dd_X12_worn_76 : decode Y_X12_worn.2.1 76 = .ok (.if_icmp .ge 6, 3) := by decide +kernel
theorem dd_X12_worn_79 : decode Y_X12_worn.2.1 79 = .ok (.iinc 5 1, 3) := by decide +kernel
theorem dd_X12_worn_82 : decode Y_X12_worn.2.1 82 = .ok (.iinc 7 1, 3) := by decide +kernel
theorem dd_X12_worn_85 : decode Y_X12_worn.2.1 85 = .ok (.goto (-34), 3) := by decide +kernel
theorem dd_X12_worn_88 : decode Y_X12_worn.2.1 88 = .ok (.aload_n 0, 1) := by decide +kernel
theorem dd_X12_worn_89 : decode Y_X12_worn.2.1 89 = .ok (.iload_n 3, 1) := by decide +kernel
theorem dd_X12_worn_90 : decode Y_X12_worn.2.1 90 = .ok (.iconst (-1), 1) := by decide +kernel
theorem dd_X12_worn_91 : decode Y_X12_worn.2.1 91 = .ok (.if_icmp .lt 16, 3) := by decide +kernel
theorem dd_X12_worn_94 : decode Y_X12_worn.2.1 94 = .ok (.iload_n 3, 1) := by decide +kernel
theorem dd_X12_worn_95 : decode Y_X12_worn.2.1 95 = .ok (.iload 6, 2) := by decide +kernel
theorem dd_X12_worn_97 : decode Y_X12_worn.2.1 97 = .ok (.iload 5, 2) := by decide +kernel
theorem dd_X12_worn_99 : decode Y_X12_worn.2.1 99 = .ok (.isub, 1) := by decide +kernel
theorem dd_X12_worn_100 : decode Y_X12_worn.2.1 100 = .ok (.if_icmp .ge 7, 3) := by decide +kernel
theorem dd_X12_worn_103 : decode Y_X12_worn.2.1 103 = .ok (.iconst 1, 1) := by decide +kernel
theorem dd_X12_worn_104 : decode Y_X12_worn.2.1 104 = .ok (.goto 4, 3) := by decide +kernel
theorem dd_X12_worn_107 : decode Y_X12_worn.2.1 107 = .ok (.iconst 0, 1) := by decide +kernel
theorem dd_X12_worn_108 : decode Y_X12_worn.2.1 108 = .ok (.iconst 1, 1) := by decide +kernel
theorem dd_X12_worn_109 : decode Y_X12_worn.2.1 109 = .ok (.invokevirtual 312, 3) := by decide +kernel
theorem dd_X12_worn_112 : decode Y_X12_worn.2.1 112 = .ok (.ifCond .ne 5, 3) := by decide +kernel
theorem dd_X12_worn_115 : decode Y_X12_worn.2.1 115 = .ok (.iconst 0, 1) := by decide +kernel
theorem dd_X12_worn_116 : decode Y_X12_worn.2.1 116 = .ok (.ireturn, 1) := by decide +kernel
theorem dd_X12_worn_117 : decode Y_X12_worn.2.1 117 = .ok (.iload_n 3, 1) := by decide +kernel
theorem dd_X12_worn_118 : decode Y_X12_worn.2.1 118 = .ok (.iconst (-1), 1) := by decide +kernel
theorem dd_X12_worn_119 : decode Y_X12_worn.2.1 119 = .ok (.if_icmp .ne 11, 3) := by decide +kernel
theorem dd_X12_worn_122 : decode Y_X12_worn.2.1 122 = .ok (.iload 6, 2) := by decide +kernel
theorem dd_X12_worn_124 : decode Y_X12_worn.2.1 124 = .ok (.iload 5, 2) := by decide +kernel
theorem dd_X12_worn_126 : decode Y_X12_worn.2.1 126 = .ok (.isub, 1) := by decide +kernel
theorem dd_X12_worn_127 : decode Y_X12_worn.2.1 127 = .ok (.goto 17, 3) := by decide +kernel
theorem dd_X12_worn_130 : decode Y_X12_worn.2.1 130 = .ok (.aload_n 0, 1) := by decide +kernel
theorem dd_X12_worn_131 : decode Y_X12_worn.2.1 131 = .ok (.getfield 16, 3) := by decide +kernel
theorem dd_X12_worn_134 : decode Y_X12_worn.2.1 134 = .ok (.bipush 9, 2) := by decide +kernel
theorem dd_X12_worn_136 : decode Y_X12_worn.2.1 136 = .ok (.iload_n 1, 1) := by decide +kernel
theorem dd_X12_worn_137 : decode Y_X12_worn.2.1 137 = .ok (.imul, 1) := by decide +kernel
theorem dd_X12_worn_138 : decode Y_X12_worn.2.1 138 = .ok (.iload 5, 2) := by decide +kernel
theorem dd_X12_worn_140 : decode Y_X12_worn.2.1 140 = .ok (.iadd, 1) := by decide +kernel
theorem dd_X12_worn_141 : decode Y_X12_worn.2.1 141 = .ok (.iload_n 3, 1) := by decide +kernel
theorem dd_X12_worn_142 : decode Y_X12_worn.2.1 142 = .ok (.iadd, 1) := by decide +kernel
theorem dd_X12_worn_143 : decode Y_X12_worn.2.1 143 = .ok (.iaload, 1) := by decide +kernel
theorem dd_X12_worn_144 : decode Y_X12_worn.2.1 144 = .ok (.ireturn, 1) := by decide +kernel
def F_X12_worn_L51 (x0 : Nat) (x1 : Int32) (x2 : Int32) (x3 : Int32) (x4 : Int32) (K88 : Int32 → Int32 → zM → zO) : Nat → Int32 → Int32 → Int32 → zM → zO
  | 0, _, _, _, _ => none
  | n + 1, x5, x6, x7, M => zit (x2 ≤ x7) (K88 x5 x6 M) (zjo (fun (w1 : Int32) (w2 : Int32) (M6 : zM) => F_X12_worn_L51 x0 x1 x2 x3 x4 K88 n w1 w2 (x7 + 1) M6) (fun (k2 : Int32 → Int32 → zM → zO) => zit ((x6 - 1) ≤ x4) (zit (x4 ≤ x5) (k2 x5 x6 M) (k2 (x5 + 1) x6 M)) (k2 x5 (x6 + (-1)) M)))
def F_X12_worn (t : Nat) (a1 : Int32) (a2 : Int32) (a3 : Int32) (M : zM) : zO := zst (zup M t 0 0) (fun M1 => zbI (F_X12_isOne t a1 M1) (fun r1 M2 => zjo (fun  (M12 : zM) => zI 0 M12) (fun (k1 : zM → zO) => zit (r1 = 0) (k1 M2) (zbI (F_X12_within a2 0 99 M2) (fun r2 M3 => zbI (F_X12_right t r2 2 M3) (fun r3 M4 => zit (r3 = 0) (k1 M4) (zbI (F_X12_vowel t a1 M4) (fun r4 M5 => zck (zin a1 8) (zlt (M5 (zgr t 6) (zix a1)) (fun v1 => F_X12_worn_L51 t a1 a2 a3 r4 (fun (y1 : Int32) (y2 : Int32) (M7 : zM) => zjo (fun (w3 : Int32) (M9 : zM) => zbI (F_X12_right t w3 1 M9) (fun r5 M10 => zit (r5 = 0) (zI 0 M10) (zjo (fun (w4 : Int32) (M11 : zM) => zI w4 M11) (fun (k5 : Int32 → zM → zO) => zit (a3 = (-1)) (k5 (y2 - y1) M10) (zck (zin (((9 * a1) + y1) + a3) 72) (k5 (M10 (zgr t 5) (zix (((9 * a1) + y1) + a3))) M10)))))) (fun (k3 : Int32 → zM → zO) => zjo (fun  (M8 : zM) => k3 0 M8) (fun (k4 : zM → zO) => zit (a3 < (-1)) (k4 M7) (zit ((y2 - y1) ≤ a3) (k4 M7) (k3 1 M7))))) zN 0 v1 0 M5))))))))))
set_option maxHeartbeats 1000000 in
set_option maxRecDepth 20000 in
theorem ct_X12_worn_L51 (l : Launch) (hl : l.stackTraces = false) (G : zG) (x0 : Nat) (hx0 : zsh x0 = 12) (x1 : Int32) (x2 : Int32) (x3 : Int32) (x4 : Int32) (K88 : Int32 → Int32 → zM → zO) (hK88 : ∀ (x5 : Int32) (x6 : Int32) (M : zM), zEv l G Y_X12_worn 3 0 88 [(0, .ref (G.2.1 + x0)), (1, .int x1), (3, .int x3), (5, .int x5), (6, .int x6)] [] M (K88 x5 x6 M)) : ∀ (n : Nat) (x5 : Int32) (x6 : Int32) (x7 : Int32) (M : zM), zEv l G Y_X12_worn 3 0 51 [(0, .ref (G.2.1 + x0)), (1, .int x1), (2, .int x2), (3, .int x3), (4, .int x4), (5, .int x5), (6, .int x6), (7, .int x7)] [] M (F_X12_worn_L51 x0 x1 x2 x3 x4 K88 n x5 x6 x7 M) := by
  intro n
  induction n with
  | zero => intro x5 x6 x7 M; exact ev_none
  | succ n ih =>
    intro x5 x6 x7 M
    show zEv l G Y_X12_worn 3 0 51 [(0, .ref (G.2.1 + x0)), (1, .int x1), (2, .int x2), (3, .int x3), (4, .int x4), (5, .int x5), (6, .int x6), (7, .int x7)] [] M (zit (x2 ≤ x7) (K88 x5 x6 M) (zjo (fun (w1 : Int32) (w2 : Int32) (M6 : zM) => F_X12_worn_L51 x0 x1 x2 x3 x4 K88 n w1 w2 (x7 + 1) M6) (fun (k2 : Int32 → Int32 → zM → zO) => zit ((x6 - 1) ≤ x4) (zit (x4 ≤ x5) (k2 x5 x6 M) (k2 (x5 + 1) x6 M)) (k2 x5 (x6 + (-1)) M))))
    refine ev_iload dd_X12_worn_51 7 rfl ?_
    refine ev_iload_n dd_X12_worn_53 2 rfl ?_
    refine ev_icmp_ge 88 dd_X12_worn_54 (by decide) ?_ ?_
    · refine ev_lv (lv' := [(0, .ref (G.2.1 + x0)), (1, .int x1), (3, .int x3), (5, .int x5), (6, .int x6)]) [0, 1, 3, 5, 6] rfl ?_
      exact hK88 _ _ _
    · refine ev_iload dd_X12_worn_57 6 rfl ?_
      refine ev_iconst (v := 1) dd_X12_worn_59 (by decide) ?_
      refine ev_isub dd_X12_worn_60 ?_
      refine ev_iload dd_X12_worn_61 4 rfl ?_
      refine ev_jo (fun (k2 : Int32 → Int32 → zM → zO) => ∀ (w1 : Int32) (w2 : Int32) (M6 : zM), zEv l G Y_X12_worn 3 0 82 [(0, .ref (G.2.1 + x0)), (1, .int x1), (2, .int x2), (3, .int x3), (4, .int x4), (5, .int w1), (6, .int w2), (7, .int x7)] [] M6 (k2 w1 w2 M6)) ?_ (fun k2 hk2 => ?_)
      · intro w1 w2 M6
        refine ev_iinc (j := 7) (v := 1) (lv' := [(0, .ref (G.2.1 + x0)), (1, .int x1), (2, .int x2), (3, .int x3), (4, .int x4), (5, .int w1), (6, .int w2), (7, .int (x7 + 1))]) [1, 2, 3, 4, 5, 6, 7, 0] dd_X12_worn_82 rfl (by decide) (by decide) rfl ?_
        refine ev_goto 51 dd_X12_worn_85 (by decide) ?_
        exact ih _ _ _ _
      · refine ev_icmp_le 72 dd_X12_worn_63 (by decide) ?_ ?_
        · refine ev_iload dd_X12_worn_72 5 rfl ?_
          refine ev_iload dd_X12_worn_74 4 rfl ?_
          refine ev_icmp_ge 82 dd_X12_worn_76 (by decide) ?_ ?_
          · exact hk2 _ _ _
          · refine ev_iinc (j := 5) (v := 1) (lv' := [(0, .ref (G.2.1 + x0)), (1, .int x1), (2, .int x2), (3, .int x3), (4, .int x4), (5, .int (x5 + 1)), (6, .int x6), (7, .int x7)]) [1, 2, 3, 4, 5, 0, 6, 7] dd_X12_worn_79 rfl (by decide) (by decide) rfl ?_
            exact hk2 _ _ _
        · refine ev_iinc (j := 6) (v := (-1)) (lv' := [(0, .ref (G.2.1 + x0)), (1, .int x1), (2, .int x2), (3, .int x3), (4, .int x4), (5, .int x5), (6, .int (x6 + (-1))), (7, .int x7)]) [1, 2, 3, 4, 5, 6, 0, 7] dd_X12_worn_66 rfl (by decide) (by decide) rfl ?_
          refine ev_goto 82 dd_X12_worn_69 (by decide) ?_
          exact hk2 _ _ _
set_option maxHeartbeats 1000000 in
set_option maxRecDepth 20000 in
theorem ct_X12_worn (l : Launch) (hl : l.stackTraces = false) (G : zG) (t : Nat) (ht : zsh t = 12) (a1 : Int32) (a2 : Int32) (a3 : Int32) (M : zM) : zMt l G Y_X12_worn 3 [.ref (G.2.1 + t), .int a1, .int a2, .int a3] M (F_X12_worn t a1 a2 a3 M) := by
  refine zMt_of (by decide +kernel) (Nat.le_of_ble_eq_true rfl) ?_
  show zEv l G Y_X12_worn 3 0 0 [(0, .ref (G.2.1 + t)), (1, .int a1), (2, .int a2), (3, .int a3)] [] M (zst (zup M t 0 0) (fun M1 => zbI (F_X12_isOne t a1 M1) (fun r1 M2 => zjo (fun  (M12 : zM) => zI 0 M12) (fun (k1 : zM → zO) => zit (r1 = 0) (k1 M2) (zbI (F_X12_within a2 0 99 M2) (fun r2 M3 => zbI (F_X12_right t r2 2 M3) (fun r3 M4 => zit (r3 = 0) (k1 M4) (zbI (F_X12_vowel t a1 M4) (fun r4 M5 => zck (zin a1 8) (zlt (M5 (zgr t 6) (zix a1)) (fun v1 => F_X12_worn_L51 t a1 a2 a3 r4 (fun (y1 : Int32) (y2 : Int32) (M7 : zM) => zjo (fun (w3 : Int32) (M9 : zM) => zbI (F_X12_right t w3 1 M9) (fun r5 M10 => zit (r5 = 0) (zI 0 M10) (zjo (fun (w4 : Int32) (M11 : zM) => zI w4 M11) (fun (k5 : Int32 → zM → zO) => zit (a3 = (-1)) (k5 (y2 - y1) M10) (zck (zin (((9 * a1) + y1) + a3) 72) (k5 (M10 (zgr t 5) (zix (((9 * a1) + y1) + a3))) M10)))))) (fun (k3 : Int32 → zM → zO) => zjo (fun  (M8 : zM) => k3 0 M8) (fun (k4 : zM → zO) => zit (a3 < (-1)) (k4 M7) (zit ((y2 - y1) ≤ a3) (k4 M7) (k3 1 M7))))) zN 0 v1 0 M5)))))))))))
  refine ev_aload_n dd_X12_worn_0 0 rfl ?_
  refine ev_iconst (v := 0) dd_X12_worn_1 (by decide) ?_
  refine ev_putI gw_RX12_153 dd_X12_worn_2 ht (by decide) ?_
  refine ev_st (fun M1 => ?_)
  refine ev_aload_n dd_X12_worn_5 0 rfl ?_
  refine ev_iload_n dd_X12_worn_6 1 rfl ?_
  refine ev_callVI (As := [.int a1]) cl_RX12_346 (ct_X12_isOne l hl G t ht a1 M1) dd_X12_worn_7 ht (by decide) (Nat.le_of_ble_eq_true rfl) (Nat.le_of_ble_eq_true rfl) rfl rfl (fun r1 M2 => ?_)
  refine ev_jo (fun (k1 : zM → zO) => ∀  (M12 : zM), zEv l G Y_X12_worn 3 0 28 [] [] M12 (k1 M12)) ?_ (fun k1 hk1 => ?_)
  · intro M12
    refine ev_iconst (v := 0) dd_X12_worn_28 (by decide) ?_
    exact ev_iret dd_X12_worn_29 rfl (Nat.le_of_ble_eq_true rfl) rfl
  · refine ev_if_eq 28 dd_X12_worn_10 (by decide) ?_ ?_
    · refine ev_lv (lv' := []) [] rfl ?_
      exact hk1 _
    · refine ev_aload_n dd_X12_worn_13 0 rfl ?_
      refine ev_iload_n dd_X12_worn_14 2 rfl ?_
      refine ev_iconst (v := 0) dd_X12_worn_15 (by decide) ?_
      refine ev_bipush (v := 99) dd_X12_worn_16 (by decide) ?_
      refine ev_callSI (As := [.int a2, .int 0, .int 99]) cl_RX12_339 (ct_X12_within l hl G a2 0 99 M2) dd_X12_worn_18 (by decide) (Nat.le_of_ble_eq_true rfl) (Nat.le_of_ble_eq_true rfl) rfl rfl (fun r2 M3 => ?_)
      refine ev_iconst (v := 2) dd_X12_worn_21 (by decide) ?_
      refine ev_callVI (As := [.int r2, .int 2]) cl_RX12_312 (ct_X12_right l hl G t ht r2 2 M3) dd_X12_worn_22 ht (by decide) (Nat.le_of_ble_eq_true rfl) (Nat.le_of_ble_eq_true rfl) rfl rfl (fun r3 M4 => ?_)
      refine ev_if_ne 30 dd_X12_worn_25 (by decide) ?_ ?_
      · refine ev_aload_n dd_X12_worn_30 0 rfl ?_
        refine ev_iload_n dd_X12_worn_31 1 rfl ?_
        refine ev_callVI (As := [.int a1]) cl_RX12_444 (ct_X12_vowel l hl G t ht a1 M4) dd_X12_worn_32 ht (by decide) (Nat.le_of_ble_eq_true rfl) (Nat.le_of_ble_eq_true rfl) rfl rfl (fun r4 M5 => ?_)
        refine ev_istore (i := 4) (lv' := [(0, .ref (G.2.1 + t)), (1, .int a1), (2, .int a2), (3, .int a3), (4, .int r4)]) [1, 2, 3, 4, 0] dd_X12_worn_35 (by decide) rfl ?_
        refine ev_iconst (v := 0) dd_X12_worn_37 (by decide) ?_
        refine ev_istore (i := 5) (lv' := [(0, .ref (G.2.1 + t)), (1, .int a1), (2, .int a2), (3, .int a3), (4, .int r4), (5, .int 0)]) [1, 2, 3, 4, 5, 0] dd_X12_worn_38 (by decide) rfl ?_
        refine ev_aload_n dd_X12_worn_40 0 rfl ?_
        refine ev_getR gf_RX12_20 dd_X12_worn_41 ht (by decide) ?_
        refine ev_iload_n dd_X12_worn_44 1 rfl ?_
        refine ev_iald dd_X12_worn_45 ((zg_12_6 ht).1) ((zg_12_6 ht).2) ?_
        refine ev_topi (fun v1 => ?_)
        refine ev_istore (i := 6) (lv' := [(0, .ref (G.2.1 + t)), (1, .int a1), (2, .int a2), (3, .int a3), (4, .int r4), (5, .int 0), (6, .int v1)]) [1, 2, 3, 4, 5, 6, 0] dd_X12_worn_46 (by decide) rfl ?_
        refine ev_iconst (v := 0) dd_X12_worn_48 (by decide) ?_
        refine ev_istore (i := 7) (lv' := [(0, .ref (G.2.1 + t)), (1, .int a1), (2, .int a2), (3, .int a3), (4, .int r4), (5, .int 0), (6, .int v1), (7, .int 0)]) [1, 2, 3, 4, 5, 6, 7, 0] dd_X12_worn_49 (by decide) rfl ?_
        refine ct_X12_worn_L51 l hl G t ht a1 a2 a3 r4 _ (fun y1 y2 M7 => ?_) zN _ _ _ _
        refine ev_aload_n dd_X12_worn_88 0 rfl ?_
        refine ev_iload_n dd_X12_worn_89 2 rfl ?_
        refine ev_iconst (v := (-1)) dd_X12_worn_90 (by decide) ?_
        refine ev_jo (fun (k3 : Int32 → zM → zO) => ∀ (w3 : Int32) (M9 : zM), zEv l G Y_X12_worn 3 0 108 [(0, .ref (G.2.1 + t)), (1, .int a1), (3, .int a3), (5, .int y1), (6, .int y2)] [.int w3, .ref (G.2.1 + t)] M9 (k3 w3 M9)) ?_ (fun k3 hk3 => ?_)
        · intro w3 M9
          refine ev_iconst (v := 1) dd_X12_worn_108 (by decide) ?_
          refine ev_callVI (As := [.int w3, .int 1]) cl_RX12_312 (ct_X12_right l hl G t ht w3 1 M9) dd_X12_worn_109 ht (by decide) (Nat.le_of_ble_eq_true rfl) (Nat.le_of_ble_eq_true rfl) rfl rfl (fun r5 M10 => ?_)
          refine ev_if_ne 117 dd_X12_worn_112 (by decide) ?_ ?_
          · refine ev_iload_n dd_X12_worn_117 2 rfl ?_
            refine ev_iconst (v := (-1)) dd_X12_worn_118 (by decide) ?_
            refine ev_jo (fun (k5 : Int32 → zM → zO) => ∀ (w4 : Int32) (M11 : zM), zEv l G Y_X12_worn 3 0 144 [] [.int w4] M11 (k5 w4 M11)) ?_ (fun k5 hk5 => ?_)
            · intro w4 M11
              exact ev_iret dd_X12_worn_144 rfl (Nat.le_of_ble_eq_true rfl) rfl
            · refine ev_icmp_ne 130 dd_X12_worn_119 (by decide) ?_ ?_
              · refine ev_lv (lv' := [(0, .ref (G.2.1 + t)), (1, .int a1), (3, .int a3), (5, .int y1)]) [0, 1, 2, 3] rfl ?_
                refine ev_aload_n dd_X12_worn_130 0 rfl ?_
                refine ev_lv (lv' := [(1, .int a1), (3, .int a3), (5, .int y1)]) [1, 2, 3] rfl ?_
                refine ev_getR gf_RX12_16 dd_X12_worn_131 ht (by decide) ?_
                refine ev_bipush (v := 9) dd_X12_worn_134 (by decide) ?_
                refine ev_iload_n dd_X12_worn_136 0 rfl ?_
                refine ev_lv (lv' := [(3, .int a3), (5, .int y1)]) [1, 2] rfl ?_
                refine ev_imul dd_X12_worn_137 ?_
                refine ev_iload dd_X12_worn_138 1 rfl ?_
                refine ev_lv (lv' := [(3, .int a3)]) [0] rfl ?_
                refine ev_iadd dd_X12_worn_140 ?_
                refine ev_iload_n dd_X12_worn_141 0 rfl ?_
                refine ev_lv (lv' := []) [] rfl ?_
                refine ev_iadd dd_X12_worn_142 ?_
                refine ev_iald dd_X12_worn_143 ((zg_12_5 ht).1) ((zg_12_5 ht).2) ?_
                exact hk5 _ _
              · refine ev_lv (lv' := [(5, .int y1), (6, .int y2)]) [3, 4] rfl ?_
                refine ev_iload dd_X12_worn_122 1 rfl ?_
                refine ev_lv (lv' := [(5, .int y1)]) [0] rfl ?_
                refine ev_iload dd_X12_worn_124 0 rfl ?_
                refine ev_lv (lv' := []) [] rfl ?_
                refine ev_isub dd_X12_worn_126 ?_
                refine ev_goto 144 dd_X12_worn_127 (by decide) ?_
                exact hk5 _ _
          · refine ev_lv (lv' := []) [] rfl ?_
            refine ev_iconst (v := 0) dd_X12_worn_115 (by decide) ?_
            exact ev_iret dd_X12_worn_116 rfl (Nat.le_of_ble_eq_true rfl) rfl
        · refine ev_jo (fun (k4 : zM → zO) => ∀  (M8 : zM), zEv l G Y_X12_worn 3 0 107 [(0, .ref (G.2.1 + t)), (1, .int a1), (3, .int a3), (5, .int y1), (6, .int y2)] [.ref (G.2.1 + t)] M8 (k4 M8)) ?_ (fun k4 hk4 => ?_)
          · intro M8
            refine ev_iconst (v := 0) dd_X12_worn_107 (by decide) ?_
            exact hk3 _ _
          · refine ev_icmp_lt 107 dd_X12_worn_91 (by decide) ?_ ?_
            · exact hk4 _
            · refine ev_iload_n dd_X12_worn_94 2 rfl ?_
              refine ev_iload dd_X12_worn_95 4 rfl ?_
              refine ev_iload dd_X12_worn_97 3 rfl ?_
              refine ev_isub dd_X12_worn_99 ?_
              refine ev_icmp_ge 107 dd_X12_worn_100 (by decide) ?_ ?_
              · exact hk4 _
              · refine ev_iconst (v := 1) dd_X12_worn_103 (by decide) ?_
                refine ev_goto 108 dd_X12_worn_104 (by decide) ?_
                exact hk3 _ _
      · refine ev_lv (lv' := []) [] rfl ?_
        exact hk1 _
/-! X12_year -/
theorem dd_X12_year_0 : decode Y_X12_year.2.1 0 = .ok (.aload_n 0, 1) := by decide +kernel
theorem dd_X12_year_1 : decode Y_X12_year.2.1 1 = .ok (.iconst 0, 1) := by decide +kernel
theorem dd_X12_year_2 : decode Y_X12_year.2.1 2 = .ok (.putfield 153, 3) := by decide +kernel
theorem dd_X12_year_5 : decode Y_X12_year.2.1 5 = .ok (.aload_n 0, 1) := by decide +kernel
theorem dd_X12_year_6 : decode Y_X12_year.2.1 6 = .ok (.invokevirtual 390, 3) := by decide +kernel
theorem dd_X12_year_9 : decode Y_X12_year.2.1 9 = .ok (.aload_n 0, 1) := by decide +kernel
theorem dd_X12_year_10 : decode Y_X12_year.2.1 10 = .ok (.aload_n 0, 1) := by decide +kernel
theorem dd_X12_year_11 : decode Y_X12_year.2.1 11 = .ok (.getfield 87, 3) := by decide +kernel
theorem dd_X12_year_14 : decode Y_X12_year.2.1 14 = .ok (.invokevirtual 393, 3) := by decide +kernel
theorem dd_X12_year_17 : decode Y_X12_year.2.1 17 = .ok (.ireturn, 1) := by decide +kernel
def F_X12_year (t : Nat) (M : zM) : zO := zst (zup M t 0 0) (fun M1 => zbV (F_X12_keeps t M1) (fun M2 => zbI (F_X12_yearOf t (zgr t 47) M2) (fun r1 M3 => zI r1 M3)))
set_option maxHeartbeats 1000000 in
set_option maxRecDepth 20000 in
theorem ct_X12_year (l : Launch) (hl : l.stackTraces = false) (G : zG) (t : Nat) (ht : zsh t = 12) (M : zM) : zMt l G Y_X12_year 6 [.ref (G.2.1 + t)] M (F_X12_year t M) := by
  refine zMt_of (by decide +kernel) (Nat.le_of_ble_eq_true rfl) ?_
  show zEv l G Y_X12_year 6 0 0 [(0, .ref (G.2.1 + t))] [] M (zst (zup M t 0 0) (fun M1 => zbV (F_X12_keeps t M1) (fun M2 => zbI (F_X12_yearOf t (zgr t 47) M2) (fun r1 M3 => zI r1 M3))))
  refine ev_aload_n dd_X12_year_0 0 rfl ?_
  refine ev_iconst (v := 0) dd_X12_year_1 (by decide) ?_
  refine ev_putI gw_RX12_153 dd_X12_year_2 ht (by decide) ?_
  refine ev_st (fun M1 => ?_)
  refine ev_aload_n dd_X12_year_5 0 rfl ?_
  refine ev_callVV (As := []) cl_RX12_390 (ct_X12_keeps l hl G t ht M1) dd_X12_year_6 ht (by decide) (Nat.le_of_ble_eq_true rfl) (Nat.le_of_ble_eq_true rfl) rfl rfl (fun M2 => ?_)
  refine ev_aload_n dd_X12_year_9 0 rfl ?_
  refine ev_aload_n dd_X12_year_10 0 rfl ?_
  refine ev_lv (lv' := []) [] rfl ?_
  refine ev_getR gf_RX12_87 dd_X12_year_11 ht (by decide) ?_
  refine ev_callVI (As := [.ref (G.2.1 + (zgr t 47))]) cl_RX12_393 (ct_X12_yearOf l hl G t ht (zgr t 47) ((zg_12_47 ht).1) M2) dd_X12_year_14 ht (by decide) (Nat.le_of_ble_eq_true rfl) (Nat.le_of_ble_eq_true rfl) rfl rfl (fun r1 M3 => ?_)
  exact ev_iret dd_X12_year_17 rfl (Nat.le_of_ble_eq_true rfl) rfl
