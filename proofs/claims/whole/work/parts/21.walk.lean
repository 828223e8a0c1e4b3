/-! F functions and walks, by program (gen.py, mkparts.py) -/
/-! X10_atHome -/
theorem dd_X10_atHome_0 : decode Y_X10_atHome.2.1 0 = .ok (.iconst 0, 1) := by decide +kernel
theorem dd_X10_atHome_1 : decode Y_X10_atHome.2.1 1 = .ok (.istore_n 1, 1) := by decide +kernel
theorem dd_X10_atHome_2 : decode Y_X10_atHome.2.1 2 = .ok (.iconst 0, 1) := by decide +kernel
theorem dd_X10_atHome_3 : decode Y_X10_atHome.2.1 3 = .ok (.istore_n 2, 1) := by decide +kernel
theorem dd_X10_atHome_4 : decode Y_X10_atHome.2.1 4 = .ok (.iload_n 2, 1) := by decide +kernel
theorem dd_X10_atHome_5 : decode Y_X10_atHome.2.1 5 = .ok (.aload_n 0, 1) := by decide +kernel
theorem dd_X10_atHome_6 : decode Y_X10_atHome.2.1 6 = .ok (.getfield 22, 3) := by decide +kernel
theorem dd_X10_atHome_9 : decode Y_X10_atHome.2.1 9 = .ok (.getfield 38, 3) := by decide +kernel
theorem dd_X10_atHome_12 : decode Y_X10_atHome.2.1 12 = .ok (.if_icmp .ge 27, 3) := by decide +kernel
theorem dd_X10_atHome_15 : decode Y_X10_atHome.2.1 15 = .ok (.iload_n 1, 1) := by decide +kernel
theorem dd_X10_atHome_16 : decode Y_X10_atHome.2.1 16 = .ok (.aload_n 0, 1) := by decide +kernel
theorem dd_X10_atHome_17 : decode Y_X10_atHome.2.1 17 = .ok (.getfield 9, 3) := by decide +kernel
theorem dd_X10_atHome_20 : decode Y_X10_atHome.2.1 20 = .ok (.iload_n 2, 1) := by decide +kernel
theorem dd_X10_atHome_21 : decode Y_X10_atHome.2.1 21 = .ok (.iaload, 1) := by decide +kernel
theorem dd_X10_atHome_22 : decode Y_X10_atHome.2.1 22 = .ok (.iload_n 2, 1) := by decide +kernel
theorem dd_X10_atHome_23 : decode Y_X10_atHome.2.1 23 = .ok (.if_icmp .ne 7, 3) := by decide +kernel
theorem dd_X10_atHome_26 : decode Y_X10_atHome.2.1 26 = .ok (.iconst 1, 1) := by decide +kernel
theorem dd_X10_atHome_27 : decode Y_X10_atHome.2.1 27 = .ok (.goto 4, 3) := by decide +kernel
theorem dd_X10_atHome_30 : decode Y_X10_atHome.2.1 30 = .ok (.iconst 0, 1) := by decide +kernel
theorem dd_X10_atHome_31 : decode Y_X10_atHome.2.1 31 = .ok (.iadd, 1) := by decide +kernel
theorem dd_X10_atHome_32 : decode Y_X10_atHome.2.1 32 = .ok (.istore_n 1, 1) := by decide +kernel
theorem dd_X10_atHome_33 : decode Y_X10_atHome.2.1 33 = .ok (.iinc 2 1, 3) := by decide +kernel
theorem dd_X10_atHome_36 : decode Y_X10_atHome.2.1 36 = .ok (.goto (-32), 3) := by decide +kernel
theorem dd_X10_atHome_39 : decode Y_X10_atHome.2.1 39 = .ok (.iload_n 1, 1) := by decide +kernel
theorem dd_X10_atHome_40 : decode Y_X10_atHome.2.1 40 = .ok (.ireturn, 1) := by decide +kernel
def F_X10_atHome_L4 (x0 : Nat) (K39 : Int32 → zM → zO) : Nat → Int32 → Int32 → zM → zO
  | 0, _, _, _ => none
  | n + 1, x1, x2, M => zit ((M (zgr x0 0) 0) ≤ x2) (K39 x1 M) (zck (zin x2 8) (zjo (fun (w1 : Int32) (M1 : zM) => zlt (x1 + w1) (fun v1 => F_X10_atHome_L4 x0 K39 n v1 (x2 + 1) M1)) (fun (k1 : Int32 → zM → zO) => zit ((M (zgr x0 1) (zix x2)) = x2) (k1 1 M) (k1 0 M))))
def F_X10_atHome (t : Nat) (M : zM) : zO := F_X10_atHome_L4 t (fun (y1 : Int32) (M2 : zM) => zI y1 M2) zN 0 0 M
set_option maxHeartbeats 1000000 in
set_option maxRecDepth 20000 in
theorem ct_X10_atHome_L4 (l : Launch) (hl : l.stackTraces = false) (G : zG) (x0 : Nat) (hx0 : zsh x0 = 10) (K39 : Int32 → zM → zO) (hK39 : ∀ (x1 : Int32) (M : zM), zEv l G Y_X10_atHome 1 0 39 [(1, .int x1)] [] M (K39 x1 M)) : ∀ (n : Nat) (x1 : Int32) (x2 : Int32) (M : zM), zEv l G Y_X10_atHome 1 0 4 [(0, .ref (G.2.1 + x0)), (1, .int x1), (2, .int x2)] [] M (F_X10_atHome_L4 x0 K39 n x1 x2 M) := by
  intro n
  induction n with
  | zero => intro x1 x2 M; exact ev_none
  | succ n ih =>
    intro x1 x2 M
    show zEv l G Y_X10_atHome 1 0 4 [(0, .ref (G.2.1 + x0)), (1, .int x1), (2, .int x2)] [] M (zit ((M (zgr x0 0) 0) ≤ x2) (K39 x1 M) (zck (zin x2 8) (zjo (fun (w1 : Int32) (M1 : zM) => zlt (x1 + w1) (fun v1 => F_X10_atHome_L4 x0 K39 n v1 (x2 + 1) M1)) (fun (k1 : Int32 → zM → zO) => zit ((M (zgr x0 1) (zix x2)) = x2) (k1 1 M) (k1 0 M)))))
    refine ev_iload_n dd_X10_atHome_4 2 rfl ?_
    refine ev_aload_n dd_X10_atHome_5 0 rfl ?_
    refine ev_getR gf_RX10_22 dd_X10_atHome_6 hx0 (by decide) ?_
    refine ev_getI gf_RX10_38 dd_X10_atHome_9 (zg_10_0 hx0) (by decide) ?_
    refine ev_icmp_ge 39 dd_X10_atHome_12 (by decide) ?_ ?_
    · refine ev_lv (lv' := [(1, .int x1)]) [1] rfl ?_
      exact hK39 _ _
    · refine ev_iload_n dd_X10_atHome_15 1 rfl ?_
      refine ev_lv (lv' := [(0, .ref (G.2.1 + x0)), (2, .int x2)]) [0, 2] rfl ?_
      refine ev_aload_n dd_X10_atHome_16 0 rfl ?_
      refine ev_getR gf_RX10_9 dd_X10_atHome_17 hx0 (by decide) ?_
      refine ev_iload_n dd_X10_atHome_20 1 rfl ?_
      refine ev_iald dd_X10_atHome_21 ((zg_10_1 hx0).1) ((zg_10_1 hx0).2) ?_
      refine ev_iload_n dd_X10_atHome_22 1 rfl ?_
      refine ev_jo (fun (k1 : Int32 → zM → zO) => ∀ (w1 : Int32) (M1 : zM), zEv l G Y_X10_atHome 1 0 31 [(0, .ref (G.2.1 + x0)), (2, .int x2)] [.int w1, .int x1] M1 (k1 w1 M1)) ?_ (fun k1 hk1 => ?_)
      · intro w1 M1
        refine ev_iadd dd_X10_atHome_31 ?_
        refine ev_topi (fun v1 => ?_)
        refine ev_istore_n (i := 1) (lv' := [(0, .ref (G.2.1 + x0)), (1, .int v1), (2, .int x2)]) [1, 0, 2] dd_X10_atHome_32 rfl (by decide) rfl ?_
        refine ev_iinc (j := 2) (v := 1) (lv' := [(0, .ref (G.2.1 + x0)), (1, .int v1), (2, .int (x2 + 1))]) [1, 2, 0] dd_X10_atHome_33 rfl (by decide) (by decide) rfl ?_
        refine ev_goto 4 dd_X10_atHome_36 (by decide) ?_
        exact ih _ _ _
      · refine ev_icmp_ne 30 dd_X10_atHome_23 (by decide) ?_ ?_
        · refine ev_iconst (v := 0) dd_X10_atHome_30 (by decide) ?_
          exact hk1 _ _
        · refine ev_iconst (v := 1) dd_X10_atHome_26 (by decide) ?_
          refine ev_goto 31 dd_X10_atHome_27 (by decide) ?_
          exact hk1 _ _
set_option maxHeartbeats 1000000 in
set_option maxRecDepth 20000 in
theorem ct_X10_atHome (l : Launch) (hl : l.stackTraces = false) (G : zG) (t : Nat) (ht : zsh t = 10) (M : zM) : zMt l G Y_X10_atHome 1 [.ref (G.2.1 + t)] M (F_X10_atHome t M) := by
  refine zMt_of (by decide +kernel) (Nat.le_of_ble_eq_true rfl) ?_
  show zEv l G Y_X10_atHome 1 0 0 [(0, .ref (G.2.1 + t))] [] M (F_X10_atHome_L4 t (fun (y1 : Int32) (M2 : zM) => zI y1 M2) zN 0 0 M)
  refine ev_iconst (v := 0) dd_X10_atHome_0 (by decide) ?_
  refine ev_istore_n (i := 1) (lv' := [(0, .ref (G.2.1 + t)), (1, .int 0)]) [1, 0] dd_X10_atHome_1 rfl (by decide) rfl ?_
  refine ev_iconst (v := 0) dd_X10_atHome_2 (by decide) ?_
  refine ev_istore_n (i := 2) (lv' := [(0, .ref (G.2.1 + t)), (1, .int 0), (2, .int 0)]) [1, 2, 0] dd_X10_atHome_3 rfl (by decide) rfl ?_
  refine ct_X10_atHome_L4 l hl G t ht _ (fun y1 M2 => ?_) zN _ _ _
  refine ev_iload_n dd_X10_atHome_39 0 rfl ?_
  refine ev_lv (lv' := []) [] rfl ?_
  exact ev_iret dd_X10_atHome_40 rfl (Nat.le_of_ble_eq_true rfl) rfl
/-! X10_begin -/
theorem dd_X10_begin_0 : decode Y_X10_begin.2.1 0 = .ok (.iconst 0, 1) := by decide +kernel
theorem dd_X10_begin_1 : decode Y_X10_begin.2.1 1 = .ok (.istore_n 1, 1) := by decide +kernel
theorem dd_X10_begin_2 : decode Y_X10_begin.2.1 2 = .ok (.iload_n 1, 1) := by decide +kernel
theorem dd_X10_begin_3 : decode Y_X10_begin.2.1 3 = .ok (.bipush 8, 2) := by decide +kernel
theorem dd_X10_begin_5 : decode Y_X10_begin.2.1 5 = .ok (.if_icmp .ge 16, 3) := by decide +kernel
theorem dd_X10_begin_8 : decode Y_X10_begin.2.1 8 = .ok (.aload_n 0, 1) := by decide +kernel
theorem dd_X10_begin_9 : decode Y_X10_begin.2.1 9 = .ok (.getfield 9, 3) := by decide +kernel
theorem dd_X10_begin_12 : decode Y_X10_begin.2.1 12 = .ok (.iload_n 1, 1) := by decide +kernel
theorem dd_X10_begin_13 : decode Y_X10_begin.2.1 13 = .ok (.iload_n 1, 1) := by decide +kernel
theorem dd_X10_begin_14 : decode Y_X10_begin.2.1 14 = .ok (.iastore, 1) := by decide +kernel
theorem dd_X10_begin_15 : decode Y_X10_begin.2.1 15 = .ok (.iinc 1 1, 3) := by decide +kernel
theorem dd_X10_begin_18 : decode Y_X10_begin.2.1 18 = .ok (.goto (-16), 3) := by decide +kernel
theorem dd_X10_begin_21 : decode Y_X10_begin.2.1 21 = .ok (.aload_n 0, 1) := by decide +kernel
theorem dd_X10_begin_22 : decode Y_X10_begin.2.1 22 = .ok (.getfield 15, 3) := by decide +kernel
theorem dd_X10_begin_25 : decode Y_X10_begin.2.1 25 = .ok (.iconst 0, 1) := by decide +kernel
theorem dd_X10_begin_26 : decode Y_X10_begin.2.1 26 = .ok (.invokestatic 26, 3) := by decide +kernel
theorem dd_X10_begin_29 : decode Y_X10_begin.2.1 29 = .ok (.aload_n 0, 1) := by decide +kernel
theorem dd_X10_begin_30 : decode Y_X10_begin.2.1 30 = .ok (.iconst 0, 1) := by decide +kernel
theorem dd_X10_begin_31 : decode Y_X10_begin.2.1 31 = .ok (.putfield 18, 3) := by decide +kernel
theorem dd_X10_begin_34 : decode Y_X10_begin.2.1 34 = .ok (.return_, 1) := by decide +kernel
def F_X10_begin_L2 (x0 : Nat) (K21 : zM → zO) : Nat → Int32 → zM → zO
  | 0, _, _ => none
  | n + 1, x1, M => zit (8 ≤ x1) (K21 M) (zck (zin x1 8) (zst (zup M (zgr x0 1) (zix x1) x1) (fun M1 => F_X10_begin_L2 x0 K21 n (x1 + 1) M1)))
def F_X10_begin (t : Nat) (M : zM) : zO := F_X10_begin_L2 t (fun  (M2 : zM) => zbV (F_J7_fill_53178 (zgr t 2) 0 M2) (fun M3 => zst (zup M3 t 3 0) (fun M4 => zV M4))) zN 0 M
set_option maxHeartbeats 1000000 in
set_option maxRecDepth 20000 in
theorem ct_X10_begin_L2 (l : Launch) (hl : l.stackTraces = false) (G : zG) (x0 : Nat) (hx0 : zsh x0 = 10) (K21 : zM → zO) (hK21 : ∀  (M : zM), zEv l G Y_X10_begin 2 0 21 [(0, .ref (G.2.1 + x0))] [] M (K21 M)) : ∀ (n : Nat) (x1 : Int32) (M : zM), zEv l G Y_X10_begin 2 0 2 [(0, .ref (G.2.1 + x0)), (1, .int x1)] [] M (F_X10_begin_L2 x0 K21 n x1 M) := by
  intro n
  induction n with
  | zero => intro x1 M; exact ev_none
  | succ n ih =>
    intro x1 M
    show zEv l G Y_X10_begin 2 0 2 [(0, .ref (G.2.1 + x0)), (1, .int x1)] [] M (zit (8 ≤ x1) (K21 M) (zck (zin x1 8) (zst (zup M (zgr x0 1) (zix x1) x1) (fun M1 => F_X10_begin_L2 x0 K21 n (x1 + 1) M1))))
    refine ev_iload_n dd_X10_begin_2 1 rfl ?_
    refine ev_bipush (v := 8) dd_X10_begin_3 (by decide) ?_
    refine ev_icmp_ge 21 dd_X10_begin_5 (by decide) ?_ ?_
    · refine ev_lv (lv' := [(0, .ref (G.2.1 + x0))]) [0] rfl ?_
      exact hK21 _
    · refine ev_aload_n dd_X10_begin_8 0 rfl ?_
      refine ev_getR gf_RX10_9 dd_X10_begin_9 hx0 (by decide) ?_
      refine ev_iload_n dd_X10_begin_12 1 rfl ?_
      refine ev_iload_n dd_X10_begin_13 1 rfl ?_
      refine ev_iast dd_X10_begin_14 ((zg_10_1 hx0).1) ((zg_10_1 hx0).2) ?_
      refine ev_st (fun M1 => ?_)
      refine ev_iinc (j := 1) (v := 1) (lv' := [(0, .ref (G.2.1 + x0)), (1, .int (x1 + 1))]) [1, 0] dd_X10_begin_15 rfl (by decide) (by decide) rfl ?_
      refine ev_goto 2 dd_X10_begin_18 (by decide) ?_
      exact ih _ _
set_option maxHeartbeats 1000000 in
set_option maxRecDepth 20000 in
theorem ct_X10_begin (l : Launch) (hl : l.stackTraces = false) (G : zG) (t : Nat) (ht : zsh t = 10) (M : zM) : zMt l G Y_X10_begin 2 [.ref (G.2.1 + t)] M (F_X10_begin t M) := by
  refine zMt_of (by decide +kernel) (Nat.le_of_ble_eq_true rfl) ?_
  show zEv l G Y_X10_begin 2 0 0 [(0, .ref (G.2.1 + t))] [] M (F_X10_begin_L2 t (fun  (M2 : zM) => zbV (F_J7_fill_53178 (zgr t 2) 0 M2) (fun M3 => zst (zup M3 t 3 0) (fun M4 => zV M4))) zN 0 M)
  refine ev_iconst (v := 0) dd_X10_begin_0 (by decide) ?_
  refine ev_istore_n (i := 1) (lv' := [(0, .ref (G.2.1 + t)), (1, .int 0)]) [1, 0] dd_X10_begin_1 rfl (by decide) rfl ?_
  refine ct_X10_begin_L2 l hl G t ht _ (fun M2 => ?_) zN _ _
  refine ev_aload_n dd_X10_begin_21 0 rfl ?_
  refine ev_getR gf_RX10_15 dd_X10_begin_22 ht (by decide) ?_
  refine ev_iconst (v := 0) dd_X10_begin_25 (by decide) ?_
  refine ev_callSV (As := [.ref (G.2.1 + (zgr t 2)), .int 0]) cl_RX10_26 (ct_J7_fill_53178 l hl G (zgr t 2) ((zg_10_2 ht).1) 0 M2) dd_X10_begin_26 (by decide) (Nat.le_of_ble_eq_true rfl) (Nat.le_of_ble_eq_true rfl) rfl rfl (fun M3 => ?_)
  refine ev_aload_n dd_X10_begin_29 0 rfl ?_
  refine ev_lv (lv' := []) [] rfl ?_
  refine ev_iconst (v := 0) dd_X10_begin_30 (by decide) ?_
  refine ev_putI gw_RX10_18 dd_X10_begin_31 ht (by decide) ?_
  refine ev_st (fun M4 => ?_)
  exact ev_vret dd_X10_begin_34 rfl (Nat.le_of_ble_eq_true rfl) rfl
/-! X10_copy -/
theorem dd_X10_copy_0 : decode Y_X10_copy.2.1 0 = .ok (.aload_n 1, 1) := by decide +kernel
theorem dd_X10_copy_1 : decode Y_X10_copy.2.1 1 = .ok (.getfield 9, 3) := by decide +kernel
theorem dd_X10_copy_4 : decode Y_X10_copy.2.1 4 = .ok (.iconst 0, 1) := by decide +kernel
theorem dd_X10_copy_5 : decode Y_X10_copy.2.1 5 = .ok (.aload_n 0, 1) := by decide +kernel
theorem dd_X10_copy_6 : decode Y_X10_copy.2.1 6 = .ok (.getfield 9, 3) := by decide +kernel
theorem dd_X10_copy_9 : decode Y_X10_copy.2.1 9 = .ok (.iconst 0, 1) := by decide +kernel
theorem dd_X10_copy_10 : decode Y_X10_copy.2.1 10 = .ok (.aload_n 0, 1) := by decide +kernel
theorem dd_X10_copy_11 : decode Y_X10_copy.2.1 11 = .ok (.getfield 9, 3) := by decide +kernel
theorem dd_X10_copy_14 : decode Y_X10_copy.2.1 14 = .ok (.arraylength, 1) := by decide +kernel
theorem dd_X10_copy_15 : decode Y_X10_copy.2.1 15 = .ok (.invokestatic 32, 3) := by decide +kernel
theorem dd_X10_copy_18 : decode Y_X10_copy.2.1 18 = .ok (.aload_n 1, 1) := by decide +kernel
theorem dd_X10_copy_19 : decode Y_X10_copy.2.1 19 = .ok (.getfield 15, 3) := by decide +kernel
theorem dd_X10_copy_22 : decode Y_X10_copy.2.1 22 = .ok (.iconst 0, 1) := by decide +kernel
theorem dd_X10_copy_23 : decode Y_X10_copy.2.1 23 = .ok (.aload_n 0, 1) := by decide +kernel
theorem dd_X10_copy_24 : decode Y_X10_copy.2.1 24 = .ok (.getfield 15, 3) := by decide +kernel
theorem dd_X10_copy_27 : decode Y_X10_copy.2.1 27 = .ok (.iconst 0, 1) := by decide +kernel
theorem dd_X10_copy_28 : decode Y_X10_copy.2.1 28 = .ok (.aload_n 0, 1) := by decide +kernel
theorem dd_X10_copy_29 : decode Y_X10_copy.2.1 29 = .ok (.getfield 15, 3) := by decide +kernel
theorem dd_X10_copy_32 : decode Y_X10_copy.2.1 32 = .ok (.arraylength, 1) := by decide +kernel
theorem dd_X10_copy_33 : decode Y_X10_copy.2.1 33 = .ok (.invokestatic 32, 3) := by decide +kernel
theorem dd_X10_copy_36 : decode Y_X10_copy.2.1 36 = .ok (.aload_n 0, 1) := by decide +kernel
theorem dd_X10_copy_37 : decode Y_X10_copy.2.1 37 = .ok (.aload_n 1, 1) := by decide +kernel
theorem dd_X10_copy_38 : decode Y_X10_copy.2.1 38 = .ok (.getfield 18, 3) := by decide +kernel
theorem dd_X10_copy_41 : decode Y_X10_copy.2.1 41 = .ok (.putfield 18, 3) := by decide +kernel
theorem dd_X10_copy_44 : decode Y_X10_copy.2.1 44 = .ok (.return_, 1) := by decide +kernel
def F_X10_copy (t : Nat) (a1 : Nat) (M : zM) : zO := zck (zcpk 0 0 8 8 8) (zst (zupA M (zgr t 1) (va_cpy (M (zgr a1 1)) (M (zgr t 1)) (zix 0) (zix 0) (zix 8))) (fun M1 => zck (zcpk 0 0 64 64 64) (zst (zupA M1 (zgr t 2) (va_cpy (M1 (zgr a1 2)) (M1 (zgr t 2)) (zix 0) (zix 0) (zix 64))) (fun M2 => zst (zup M2 t 3 (M2 a1 3)) (fun M3 => zV M3)))))
set_option maxHeartbeats 1000000 in
set_option maxRecDepth 20000 in
theorem ct_X10_copy (l : Launch) (hl : l.stackTraces = false) (G : zG) (t : Nat) (ht : zsh t = 10) (a1 : Nat) (ha1 : zsh a1 = 10) (M : zM) : zMt l G Y_X10_copy 8 [.ref (G.2.1 + t), .ref (G.2.1 + a1)] M (F_X10_copy t a1 M) := by
  refine zMt_of (by decide +kernel) (Nat.le_of_ble_eq_true rfl) ?_
  show zEv l G Y_X10_copy 8 0 0 [(0, .ref (G.2.1 + t)), (1, .ref (G.2.1 + a1))] [] M (zck (zcpk 0 0 8 8 8) (zst (zupA M (zgr t 1) (va_cpy (M (zgr a1 1)) (M (zgr t 1)) (zix 0) (zix 0) (zix 8))) (fun M1 => zck (zcpk 0 0 64 64 64) (zst (zupA M1 (zgr t 2) (va_cpy (M1 (zgr a1 2)) (M1 (zgr t 2)) (zix 0) (zix 0) (zix 64))) (fun M2 => zst (zup M2 t 3 (M2 a1 3)) (fun M3 => zV M3))))))
  refine ev_aload_n dd_X10_copy_0 1 rfl ?_
  refine ev_getR gf_RX10_9 dd_X10_copy_1 ha1 (by decide) ?_
  refine ev_iconst (v := 0) dd_X10_copy_4 (by decide) ?_
  refine ev_aload_n dd_X10_copy_5 0 rfl ?_
  refine ev_getR gf_RX10_9 dd_X10_copy_6 ht (by decide) ?_
  refine ev_iconst (v := 0) dd_X10_copy_9 (by decide) ?_
  refine ev_aload_n dd_X10_copy_10 0 rfl ?_
  refine ev_getR gf_RX10_9 dd_X10_copy_11 ht (by decide) ?_
  refine ev_alen (v := 8) dd_X10_copy_14 ((zg_10_1 ht).1) (Or.inl rfl) ((zg_10_1 ht).2) rfl ?_
  refine ev_copyi cw_RX10_32 dd_X10_copy_15 ((zg_10_1 ha1).1) ((zg_10_1 ha1).2) ((zg_10_1 ht).1) ((zg_10_1 ht).2) (Nat.le_of_ble_eq_true rfl) ?_
  refine ev_st (fun M1 => ?_)
  refine ev_aload_n dd_X10_copy_18 1 rfl ?_
  refine ev_getR gf_RX10_15 dd_X10_copy_19 ha1 (by decide) ?_
  refine ev_iconst (v := 0) dd_X10_copy_22 (by decide) ?_
  refine ev_aload_n dd_X10_copy_23 0 rfl ?_
  refine ev_getR gf_RX10_15 dd_X10_copy_24 ht (by decide) ?_
  refine ev_iconst (v := 0) dd_X10_copy_27 (by decide) ?_
  refine ev_aload_n dd_X10_copy_28 0 rfl ?_
  refine ev_getR gf_RX10_15 dd_X10_copy_29 ht (by decide) ?_
  refine ev_alen (v := 64) dd_X10_copy_32 ((zg_10_2 ht).1) (Or.inl rfl) ((zg_10_2 ht).2) rfl ?_
  refine ev_copyi cw_RX10_32 dd_X10_copy_33 ((zg_10_2 ha1).1) ((zg_10_2 ha1).2) ((zg_10_2 ht).1) ((zg_10_2 ht).2) (Nat.le_of_ble_eq_true rfl) ?_
  refine ev_st (fun M2 => ?_)
  refine ev_aload_n dd_X10_copy_36 0 rfl ?_
  refine ev_lv (lv' := [(1, .ref (G.2.1 + a1))]) [1] rfl ?_
  refine ev_aload_n dd_X10_copy_37 0 rfl ?_
  refine ev_lv (lv' := []) [] rfl ?_
  refine ev_getI gf_RX10_18 dd_X10_copy_38 ha1 (by decide) ?_
  refine ev_putI gw_RX10_18 dd_X10_copy_41 ht (by decide) ?_
  refine ev_st (fun M3 => ?_)
  exact ev_vret dd_X10_copy_44 rfl (Nat.le_of_ble_eq_true rfl) rfl
/-! X10_owes -/
theorem dd_X10_owes_0 : decode Y_X10_owes.2.1 0 = .ok (.aload_n 0, 1) := by decide +kernel
theorem dd_X10_owes_1 : decode Y_X10_owes.2.1 1 = .ok (.getfield 15, 3) := by decide +kernel
theorem dd_X10_owes_4 : decode Y_X10_owes.2.1 4 = .ok (.iload_n 1, 1) := by decide +kernel
theorem dd_X10_owes_5 : decode Y_X10_owes.2.1 5 = .ok (.bipush 8, 2) := by decide +kernel
theorem dd_X10_owes_7 : decode Y_X10_owes.2.1 7 = .ok (.imul, 1) := by decide +kernel
theorem dd_X10_owes_8 : decode Y_X10_owes.2.1 8 = .ok (.iload_n 2, 1) := by decide +kernel
theorem dd_X10_owes_9 : decode Y_X10_owes.2.1 9 = .ok (.iadd, 1) := by decide +kernel
theorem dd_X10_owes_10 : decode Y_X10_owes.2.1 10 = .ok (.iaload, 1) := by decide +kernel
theorem dd_X10_owes_11 : decode Y_X10_owes.2.1 11 = .ok (.ireturn, 1) := by decide +kernel
def F_X10_owes (t : Nat) (a1 : Int32) (a2 : Int32) (M : zM) : zO := zck (zin ((a1 * 8) + a2) 64) (zI (M (zgr t 2) (zix ((a1 * 8) + a2))) M)
set_option maxHeartbeats 1000000 in
set_option maxRecDepth 20000 in
theorem ct_X10_owes (l : Launch) (hl : l.stackTraces = false) (G : zG) (t : Nat) (ht : zsh t = 10) (a1 : Int32) (a2 : Int32) (M : zM) : zMt l G Y_X10_owes 1 [.ref (G.2.1 + t), .int a1, .int a2] M (F_X10_owes t a1 a2 M) := by
  refine zMt_of (by decide +kernel) (Nat.le_of_ble_eq_true rfl) ?_
  show zEv l G Y_X10_owes 1 0 0 [(0, .ref (G.2.1 + t)), (1, .int a1), (2, .int a2)] [] M (zck (zin ((a1 * 8) + a2) 64) (zI (M (zgr t 2) (zix ((a1 * 8) + a2))) M))
  refine ev_aload_n dd_X10_owes_0 0 rfl ?_
  refine ev_lv (lv' := [(1, .int a1), (2, .int a2)]) [1, 2] rfl ?_
  refine ev_getR gf_RX10_15 dd_X10_owes_1 ht (by decide) ?_
  refine ev_iload_n dd_X10_owes_4 0 rfl ?_
  refine ev_lv (lv' := [(2, .int a2)]) [1] rfl ?_
  refine ev_bipush (v := 8) dd_X10_owes_5 (by decide) ?_
  refine ev_imul dd_X10_owes_7 ?_
  refine ev_iload_n dd_X10_owes_8 0 rfl ?_
  refine ev_lv (lv' := []) [] rfl ?_
  refine ev_iadd dd_X10_owes_9 ?_
  refine ev_iald dd_X10_owes_10 ((zg_10_2 ht).1) ((zg_10_2 ht).2) ?_
  exact ev_iret dd_X10_owes_11 rfl (Nat.le_of_ble_eq_true rfl) rfl
/-! X10_setDebt -/
theorem dd_X10_setDebt_0 : decode Y_X10_setDebt.2.1 0 = .ok (.aload_n 0, 1) := by decide +kernel
theorem dd_X10_setDebt_1 : decode Y_X10_setDebt.2.1 1 = .ok (.getfield 15, 3) := by decide +kernel
theorem dd_X10_setDebt_4 : decode Y_X10_setDebt.2.1 4 = .ok (.iload_n 1, 1) := by decide +kernel
theorem dd_X10_setDebt_5 : decode Y_X10_setDebt.2.1 5 = .ok (.bipush 8, 2) := by decide +kernel
theorem dd_X10_setDebt_7 : decode Y_X10_setDebt.2.1 7 = .ok (.imul, 1) := by decide +kernel
theorem dd_X10_setDebt_8 : decode Y_X10_setDebt.2.1 8 = .ok (.iload_n 2, 1) := by decide +kernel
theorem dd_X10_setDebt_9 : decode Y_X10_setDebt.2.1 9 = .ok (.iadd, 1) := by decide +kernel
theorem dd_X10_setDebt_10 : decode Y_X10_setDebt.2.1 10 = .ok (.iload_n 3, 1) := by decide +kernel
theorem dd_X10_setDebt_11 : decode Y_X10_setDebt.2.1 11 = .ok (.iastore, 1) := by decide +kernel
theorem dd_X10_setDebt_12 : decode Y_X10_setDebt.2.1 12 = .ok (.aload_n 0, 1) := by decide +kernel
theorem dd_X10_setDebt_13 : decode Y_X10_setDebt.2.1 13 = .ok (.getfield 15, 3) := by decide +kernel
theorem dd_X10_setDebt_16 : decode Y_X10_setDebt.2.1 16 = .ok (.iload_n 2, 1) := by decide +kernel
theorem dd_X10_setDebt_17 : decode Y_X10_setDebt.2.1 17 = .ok (.bipush 8, 2) := by decide +kernel
theorem dd_X10_setDebt_19 : decode Y_X10_setDebt.2.1 19 = .ok (.imul, 1) := by decide +kernel
theorem dd_X10_setDebt_20 : decode Y_X10_setDebt.2.1 20 = .ok (.iload_n 1, 1) := by decide +kernel
theorem dd_X10_setDebt_21 : decode Y_X10_setDebt.2.1 21 = .ok (.iadd, 1) := by decide +kernel
theorem dd_X10_setDebt_22 : decode Y_X10_setDebt.2.1 22 = .ok (.iload_n 3, 1) := by decide +kernel
theorem dd_X10_setDebt_23 : decode Y_X10_setDebt.2.1 23 = .ok (.ineg, 1) := by decide +kernel
theorem dd_X10_setDebt_24 : decode Y_X10_setDebt.2.1 24 = .ok (.iastore, 1) := by decide +kernel
theorem dd_X10_setDebt_25 : decode Y_X10_setDebt.2.1 25 = .ok (.return_, 1) := by decide +kernel
def F_X10_setDebt (t : Nat) (a1 : Int32) (a2 : Int32) (a3 : Int32) (M : zM) : zO := zck (zin ((a1 * 8) + a2) 64) (zst (zup M (zgr t 2) (zix ((a1 * 8) + a2)) a3) (fun M1 => zck (zin ((a2 * 8) + a1) 64) (zst (zup M1 (zgr t 2) (zix ((a2 * 8) + a1)) (-a3)) (fun M2 => zV M2))))
set_option maxHeartbeats 1000000 in
set_option maxRecDepth 20000 in
theorem ct_X10_setDebt (l : Launch) (hl : l.stackTraces = false) (G : zG) (t : Nat) (ht : zsh t = 10) (a1 : Int32) (a2 : Int32) (a3 : Int32) (M : zM) : zMt l G Y_X10_setDebt 1 [.ref (G.2.1 + t), .int a1, .int a2, .int a3] M (F_X10_setDebt t a1 a2 a3 M) := by
  refine zMt_of (by decide +kernel) (Nat.le_of_ble_eq_true rfl) ?_
  show zEv l G Y_X10_setDebt 1 0 0 [(0, .ref (G.2.1 + t)), (1, .int a1), (2, .int a2), (3, .int a3)] [] M (zck (zin ((a1 * 8) + a2) 64) (zst (zup M (zgr t 2) (zix ((a1 * 8) + a2)) a3) (fun M1 => zck (zin ((a2 * 8) + a1) 64) (zst (zup M1 (zgr t 2) (zix ((a2 * 8) + a1)) (-a3)) (fun M2 => zV M2)))))
  refine ev_aload_n dd_X10_setDebt_0 0 rfl ?_
  refine ev_getR gf_RX10_15 dd_X10_setDebt_1 ht (by decide) ?_
  refine ev_iload_n dd_X10_setDebt_4 1 rfl ?_
  refine ev_bipush (v := 8) dd_X10_setDebt_5 (by decide) ?_
  refine ev_imul dd_X10_setDebt_7 ?_
  refine ev_iload_n dd_X10_setDebt_8 2 rfl ?_
  refine ev_iadd dd_X10_setDebt_9 ?_
  refine ev_iload_n dd_X10_setDebt_10 3 rfl ?_
  refine ev_iast dd_X10_setDebt_11 ((zg_10_2 ht).1) ((zg_10_2 ht).2) ?_
  refine ev_st (fun M1 => ?_)
  refine ev_aload_n dd_X10_setDebt_12 0 rfl ?_
  refine ev_lv (lv' := [(1, .int a1), (2, .int a2), (3, .int a3)]) [1, 2, 3] rfl ?_
  refine ev_getR gf_RX10_15 dd_X10_setDebt_13 ht (by decide) ?_
  refine ev_iload_n dd_X10_setDebt_16 1 rfl ?_
  refine ev_lv (lv' := [(1, .int a1), (3, .int a3)]) [0, 2] rfl ?_
  refine ev_bipush (v := 8) dd_X10_setDebt_17 (by decide) ?_
  refine ev_imul dd_X10_setDebt_19 ?_
  refine ev_iload_n dd_X10_setDebt_20 0 rfl ?_
  refine ev_lv (lv' := [(3, .int a3)]) [1] rfl ?_
  refine ev_iadd dd_X10_setDebt_21 ?_
  refine ev_iload_n dd_X10_setDebt_22 0 rfl ?_
  refine ev_lv (lv' := []) [] rfl ?_
  refine ev_ineg dd_X10_setDebt_23 ?_
  refine ev_iast dd_X10_setDebt_24 ((zg_10_2 ht).1) ((zg_10_2 ht).2) ?_
  refine ev_st (fun M2 => ?_)
  exact ev_vret dd_X10_setDebt_25 rfl (Nat.le_of_ble_eq_true rfl) rfl
/-! X10_exchange -/
theorem dd_X10_exchange_0 : decode Y_X10_exchange.2.1 0 = .ok (.aload_n 0, 1) := by decide +kernel
theorem dd_X10_exchange_1 : decode Y_X10_exchange.2.1 1 = .ok (.getfield 22, 3) := by decide +kernel
theorem dd_X10_exchange_4 : decode Y_X10_exchange.2.1 4 = .ok (.getfield 59, 3) := by decide +kernel
theorem dd_X10_exchange_7 : decode Y_X10_exchange.2.1 7 = .ok (.getfield 63, 3) := by decide +kernel
theorem dd_X10_exchange_10 : decode Y_X10_exchange.2.1 10 = .ok (.aload_n 0, 1) := by decide +kernel
theorem dd_X10_exchange_11 : decode Y_X10_exchange.2.1 11 = .ok (.getfield 9, 3) := by decide +kernel
theorem dd_X10_exchange_14 : decode Y_X10_exchange.2.1 14 = .ok (.iload_n 2, 1) := by decide +kernel
theorem dd_X10_exchange_15 : decode Y_X10_exchange.2.1 15 = .ok (.iaload, 1) := by decide +kernel
theorem dd_X10_exchange_16 : decode Y_X10_exchange.2.1 16 = .ok (.iaload, 1) := by decide +kernel
theorem dd_X10_exchange_17 : decode Y_X10_exchange.2.1 17 = .ok (.aload_n 0, 1) := by decide +kernel
theorem dd_X10_exchange_18 : decode Y_X10_exchange.2.1 18 = .ok (.getfield 22, 3) := by decide +kernel
theorem dd_X10_exchange_21 : decode Y_X10_exchange.2.1 21 = .ok (.getfield 59, 3) := by decide +kernel
theorem dd_X10_exchange_24 : decode Y_X10_exchange.2.1 24 = .ok (.getfield 63, 3) := by decide +kernel
theorem dd_X10_exchange_27 : decode Y_X10_exchange.2.1 27 = .ok (.aload_n 0, 1) := by decide +kernel
theorem dd_X10_exchange_28 : decode Y_X10_exchange.2.1 28 = .ok (.getfield 9, 3) := by decide +kernel
theorem dd_X10_exchange_31 : decode Y_X10_exchange.2.1 31 = .ok (.iload_n 1, 1) := by decide +kernel
theorem dd_X10_exchange_32 : decode Y_X10_exchange.2.1 32 = .ok (.iaload, 1) := by decide +kernel
theorem dd_X10_exchange_33 : decode Y_X10_exchange.2.1 33 = .ok (.iaload, 1) := by decide +kernel
theorem dd_X10_exchange_34 : decode Y_X10_exchange.2.1 34 = .ok (.isub, 1) := by decide +kernel
theorem dd_X10_exchange_35 : decode Y_X10_exchange.2.1 35 = .ok (.istore_n 3, 1) := by decide +kernel
theorem dd_X10_exchange_36 : decode Y_X10_exchange.2.1 36 = .ok (.aload_n 0, 1) := by decide +kernel
theorem dd_X10_exchange_37 : decode Y_X10_exchange.2.1 37 = .ok (.getfield 9, 3) := by decide +kernel
theorem dd_X10_exchange_40 : decode Y_X10_exchange.2.1 40 = .ok (.iload_n 1, 1) := by decide +kernel
theorem dd_X10_exchange_41 : decode Y_X10_exchange.2.1 41 = .ok (.iaload, 1) := by decide +kernel
theorem dd_X10_exchange_42 : decode Y_X10_exchange.2.1 42 = .ok (.istore 4, 2) := by decide +kernel
theorem dd_X10_exchange_44 : decode Y_X10_exchange.2.1 44 = .ok (.aload_n 0, 1) := by decide +kernel
theorem dd_X10_exchange_45 : decode Y_X10_exchange.2.1 45 = .ok (.getfield 9, 3) := by decide +kernel
theorem dd_X10_exchange_48 : decode Y_X10_exchange.2.1 48 = .ok (.iload_n 1, 1) := by decide +kernel
theorem dd_X10_exchange_49 : decode Y_X10_exchange.2.1 49 = .ok (.aload_n 0, 1) := by decide +kernel
theorem dd_X10_exchange_50 : decode Y_X10_exchange.2.1 50 = .ok (.getfield 9, 3) := by decide +kernel
theorem dd_X10_exchange_53 : decode Y_X10_exchange.2.1 53 = .ok (.iload_n 2, 1) := by decide +kernel
theorem dd_X10_exchange_54 : decode Y_X10_exchange.2.1 54 = .ok (.iaload, 1) := by decide +kernel
theorem dd_X10_exchange_55 : decode Y_X10_exchange.2.1 55 = .ok (.iastore, 1) := by decide +kernel
theorem dd_X10_exchange_56 : decode Y_X10_exchange.2.1 56 = .ok (.aload_n 0, 1) := by decide +kernel
theorem dd_X10_exchange_57 : decode Y_X10_exchange.2.1 57 = .ok (.getfield 9, 3) := by decide +kernel
theorem dd_X10_exchange_60 : decode Y_X10_exchange.2.1 60 = .ok (.iload_n 2, 1) := by decide +kernel
theorem dd_X10_exchange_61 : decode Y_X10_exchange.2.1 61 = .ok (.iload 4, 2) := by decide +kernel
theorem dd_X10_exchange_63 : decode Y_X10_exchange.2.1 63 = .ok (.iastore, 1) := by decide +kernel
theorem dd_X10_exchange_64 : decode Y_X10_exchange.2.1 64 = .ok (.aload_n 0, 1) := by decide +kernel
theorem dd_X10_exchange_65 : decode Y_X10_exchange.2.1 65 = .ok (.iload_n 1, 1) := by decide +kernel
theorem dd_X10_exchange_66 : decode Y_X10_exchange.2.1 66 = .ok (.iload_n 2, 1) := by decide +kernel
theorem dd_X10_exchange_67 : decode Y_X10_exchange.2.1 67 = .ok (.aload_n 0, 1) := by decide +kernel
theorem dd_X10_exchange_68 : decode Y_X10_exchange.2.1 68 = .ok (.iload_n 1, 1) := by decide +kernel
theorem dd_X10_exchange_69 : decode Y_X10_exchange.2.1 69 = .ok (.iload_n 2, 1) := by decide +kernel
theorem dd_X10_exchange_70 : decode Y_X10_exchange.2.1 70 = .ok (.invokevirtual 43, 3) := by decide +kernel
theorem dd_X10_exchange_73 : decode Y_X10_exchange.2.1 73 = .ok (.iload_n 3, 1) := by decide +kernel
theorem dd_X10_exchange_74 : decode Y_X10_exchange.2.1 74 = .ok (.iadd, 1) := by decide +kernel
theorem dd_X10_exchange_75 : decode Y_X10_exchange.2.1 75 = .ok (.invokevirtual 68, 3) := by decide +kernel
theorem dd_X10_exchange_78 : decode Y_X10_exchange.2.1 78 = .ok (.iload_n 3, 1) := by decide +kernel
theorem dd_X10_exchange_79 : decode Y_X10_exchange.2.1 79 = .ok (.ireturn, 1) := by decide +kernel
def F_X10_exchange (t : Nat) (a1 : Int32) (a2 : Int32) (M : zM) : zO := zck (zin a2 8) (zck (zin (M (zgr t 1) (zix a2)) 8) (zck (zin a1 8) (zck (zin (M (zgr t 1) (zix a1)) 8) (zlt ((M (zgr (zgr (zgr t 0) 4) 1) (zix (M (zgr t 1) (zix a2)))) - (M (zgr (zgr (zgr t 0) 4) 1) (zix (M (zgr t 1) (zix a1))))) (fun v1 => zck (zin a1 8) (zlt (M (zgr t 1) (zix a1)) (fun v2 => zck (zin a2 8) (zck (zin a1 8) (zst (zup M (zgr t 1) (zix a1) (M (zgr t 1) (zix a2))) (fun M1 => zck (zin a2 8) (zst (zup M1 (zgr t 1) (zix a2) v2) (fun M2 => zbI (F_X10_owes t a1 a2 M2) (fun r1 M3 => zbV (F_X10_setDebt t a1 a2 (r1 + v1) M3) (fun M4 => zI v1 M4))))))))))))))
set_option maxHeartbeats 1000000 in
set_option maxRecDepth 20000 in
theorem ct_X10_exchange (l : Launch) (hl : l.stackTraces = false) (G : zG) (t : Nat) (ht : zsh t = 10) (a1 : Int32) (a2 : Int32) (M : zM) : zMt l G Y_X10_exchange 2 [.ref (G.2.1 + t), .int a1, .int a2] M (F_X10_exchange t a1 a2 M) := by
  refine zMt_of (by decide +kernel) (Nat.le_of_ble_eq_true rfl) ?_
  show zEv l G Y_X10_exchange 2 0 0 [(0, .ref (G.2.1 + t)), (1, .int a1), (2, .int a2)] [] M (zck (zin a2 8) (zck (zin (M (zgr t 1) (zix a2)) 8) (zck (zin a1 8) (zck (zin (M (zgr t 1) (zix a1)) 8) (zlt ((M (zgr (zgr (zgr t 0) 4) 1) (zix (M (zgr t 1) (zix a2)))) - (M (zgr (zgr (zgr t 0) 4) 1) (zix (M (zgr t 1) (zix a1))))) (fun v1 => zck (zin a1 8) (zlt (M (zgr t 1) (zix a1)) (fun v2 => zck (zin a2 8) (zck (zin a1 8) (zst (zup M (zgr t 1) (zix a1) (M (zgr t 1) (zix a2))) (fun M1 => zck (zin a2 8) (zst (zup M1 (zgr t 1) (zix a2) v2) (fun M2 => zbI (F_X10_owes t a1 a2 M2) (fun r1 M3 => zbV (F_X10_setDebt t a1 a2 (r1 + v1) M3) (fun M4 => zI v1 M4)))))))))))))))
  refine ev_aload_n dd_X10_exchange_0 0 rfl ?_
  refine ev_getR gf_RX10_22 dd_X10_exchange_1 ht (by decide) ?_
  refine ev_getR gf_RX10_59 dd_X10_exchange_4 (zg_10_0 ht) (by decide) ?_
  refine ev_getR gf_RX10_63 dd_X10_exchange_7 (zg_6_4 (zg_10_0 ht)) (by decide) ?_
  refine ev_aload_n dd_X10_exchange_10 0 rfl ?_
  refine ev_getR gf_RX10_9 dd_X10_exchange_11 ht (by decide) ?_
  refine ev_iload_n dd_X10_exchange_14 2 rfl ?_
  refine ev_iald dd_X10_exchange_15 ((zg_10_1 ht).1) ((zg_10_1 ht).2) ?_
  refine ev_iald dd_X10_exchange_16 ((zg_9_1 (zg_6_4 (zg_10_0 ht))).1) ((zg_9_1 (zg_6_4 (zg_10_0 ht))).2) ?_
  refine ev_aload_n dd_X10_exchange_17 0 rfl ?_
  refine ev_getR gf_RX10_22 dd_X10_exchange_18 ht (by decide) ?_
  refine ev_getR gf_RX10_59 dd_X10_exchange_21 (zg_10_0 ht) (by decide) ?_
  refine ev_getR gf_RX10_63 dd_X10_exchange_24 (zg_6_4 (zg_10_0 ht)) (by decide) ?_
  refine ev_aload_n dd_X10_exchange_27 0 rfl ?_
  refine ev_getR gf_RX10_9 dd_X10_exchange_28 ht (by decide) ?_
  refine ev_iload_n dd_X10_exchange_31 1 rfl ?_
  refine ev_iald dd_X10_exchange_32 ((zg_10_1 ht).1) ((zg_10_1 ht).2) ?_
  refine ev_iald dd_X10_exchange_33 ((zg_9_1 (zg_6_4 (zg_10_0 ht))).1) ((zg_9_1 (zg_6_4 (zg_10_0 ht))).2) ?_
  refine ev_isub dd_X10_exchange_34 ?_
  refine ev_topi (fun v1 => ?_)
  refine ev_istore_n (i := 3) (lv' := [(0, .ref (G.2.1 + t)), (1, .int a1), (2, .int a2), (3, .int v1)]) [1, 2, 3, 0] dd_X10_exchange_35 rfl (by decide) rfl ?_
  refine ev_aload_n dd_X10_exchange_36 0 rfl ?_
  refine ev_getR gf_RX10_9 dd_X10_exchange_37 ht (by decide) ?_
  refine ev_iload_n dd_X10_exchange_40 1 rfl ?_
  refine ev_iald dd_X10_exchange_41 ((zg_10_1 ht).1) ((zg_10_1 ht).2) ?_
  refine ev_topi (fun v2 => ?_)
  refine ev_istore (i := 4) (lv' := [(0, .ref (G.2.1 + t)), (1, .int a1), (2, .int a2), (3, .int v1), (4, .int v2)]) [1, 2, 3, 4, 0] dd_X10_exchange_42 (by decide) rfl ?_
  refine ev_aload_n dd_X10_exchange_44 0 rfl ?_
  refine ev_getR gf_RX10_9 dd_X10_exchange_45 ht (by decide) ?_
  refine ev_iload_n dd_X10_exchange_48 1 rfl ?_
  refine ev_aload_n dd_X10_exchange_49 0 rfl ?_
  refine ev_getR gf_RX10_9 dd_X10_exchange_50 ht (by decide) ?_
  refine ev_iload_n dd_X10_exchange_53 2 rfl ?_
  refine ev_iald dd_X10_exchange_54 ((zg_10_1 ht).1) ((zg_10_1 ht).2) ?_
  refine ev_iast dd_X10_exchange_55 ((zg_10_1 ht).1) ((zg_10_1 ht).2) ?_
  refine ev_st (fun M1 => ?_)
  refine ev_aload_n dd_X10_exchange_56 0 rfl ?_
  refine ev_getR gf_RX10_9 dd_X10_exchange_57 ht (by decide) ?_
  refine ev_iload_n dd_X10_exchange_60 2 rfl ?_
  refine ev_iload dd_X10_exchange_61 4 rfl ?_
  refine ev_lv (lv' := [(0, .ref (G.2.1 + t)), (1, .int a1), (2, .int a2), (3, .int v1)]) [0, 1, 2, 3] rfl ?_
  refine ev_iast dd_X10_exchange_63 ((zg_10_1 ht).1) ((zg_10_1 ht).2) ?_
  refine ev_st (fun M2 => ?_)
  refine ev_aload_n dd_X10_exchange_64 0 rfl ?_
  refine ev_iload_n dd_X10_exchange_65 1 rfl ?_
  refine ev_iload_n dd_X10_exchange_66 2 rfl ?_
  refine ev_aload_n dd_X10_exchange_67 0 rfl ?_
  refine ev_lv (lv' := [(1, .int a1), (2, .int a2), (3, .int v1)]) [1, 2, 3] rfl ?_
  refine ev_iload_n dd_X10_exchange_68 0 rfl ?_
  refine ev_lv (lv' := [(2, .int a2), (3, .int v1)]) [1, 2] rfl ?_
  refine ev_iload_n dd_X10_exchange_69 0 rfl ?_
  refine ev_lv (lv' := [(3, .int v1)]) [1] rfl ?_
  refine ev_callVI (As := [.int a1, .int a2]) cl_RX10_43 (ct_X10_owes l hl G t ht a1 a2 M2) dd_X10_exchange_70 ht (by decide) (Nat.le_of_ble_eq_true rfl) (Nat.le_of_ble_eq_true rfl) rfl rfl (fun r1 M3 => ?_)
  refine ev_iload_n dd_X10_exchange_73 0 rfl ?_
  refine ev_iadd dd_X10_exchange_74 ?_
  refine ev_callVV (As := [.int a1, .int a2, .int (r1 + v1)]) cl_RX10_68 (ct_X10_setDebt l hl G t ht a1 a2 (r1 + v1) M3) dd_X10_exchange_75 ht (by decide) (Nat.le_of_ble_eq_true rfl) (Nat.le_of_ble_eq_true rfl) rfl rfl (fun M4 => ?_)
  refine ev_iload_n dd_X10_exchange_78 0 rfl ?_
  refine ev_lv (lv' := []) [] rfl ?_
  exact ev_iret dd_X10_exchange_79 rfl (Nat.le_of_ble_eq_true rfl) rfl
/-! X10_holder -/
theorem dd_X10_holder_0 : decode Y_X10_holder.2.1 0 = .ok (.iconst 0, 1) := by decide +kernel
theorem dd_X10_holder_1 : decode Y_X10_holder.2.1 1 = .ok (.istore_n 2, 1) := by decide +kernel
theorem dd_X10_holder_2 : decode Y_X10_holder.2.1 2 = .ok (.iload_n 2, 1) := by decide +kernel
theorem dd_X10_holder_3 : decode Y_X10_holder.2.1 3 = .ok (.aload_n 0, 1) := by decide +kernel
theorem dd_X10_holder_4 : decode Y_X10_holder.2.1 4 = .ok (.getfield 22, 3) := by decide +kernel
theorem dd_X10_holder_7 : decode Y_X10_holder.2.1 7 = .ok (.getfield 38, 3) := by decide +kernel
theorem dd_X10_holder_10 : decode Y_X10_holder.2.1 10 = .ok (.if_icmp .ge 21, 3) := by decide +kernel
theorem dd_X10_holder_13 : decode Y_X10_holder.2.1 13 = .ok (.aload_n 0, 1) := by decide +kernel
theorem dd_X10_holder_14 : decode Y_X10_holder.2.1 14 = .ok (.getfield 9, 3) := by decide +kernel
theorem dd_X10_holder_17 : decode Y_X10_holder.2.1 17 = .ok (.iload_n 2, 1) := by decide +kernel
theorem dd_X10_holder_18 : decode Y_X10_holder.2.1 18 = .ok (.iaload, 1) := by decide +kernel
theorem dd_X10_holder_19 : decode Y_X10_holder.2.1 19 = .ok (.iload_n 1, 1) := by decide +kernel
theorem dd_X10_holder_20 : decode Y_X10_holder.2.1 20 = .ok (.if_icmp .ne 5, 3) := by decide +kernel
theorem dd_X10_holder_23 : decode Y_X10_holder.2.1 23 = .ok (.iload_n 2, 1) := by decide +kernel
theorem dd_X10_holder_24 : decode Y_X10_holder.2.1 24 = .ok (.ireturn, 1) := by decide +kernel
theorem dd_X10_holder_25 : decode Y_X10_holder.2.1 25 = .ok (.iinc 2 1, 3) := by decide +kernel
theorem dd_X10_holder_28 : decode Y_X10_holder.2.1 28 = .ok (.goto (-26), 3) := by decide +kernel
theorem dd_X10_holder_31 : decode Y_X10_holder.2.1 31 = .ok (.iconst (-1), 1) := by decide +kernel
theorem dd_X10_holder_32 : decode Y_X10_holder.2.1 32 = .ok (.ireturn, 1) := by decide +kernel
def F_X10_holder_L2 (x0 : Nat) (x1 : Int32) (K31 : zM → zO) : Nat → Int32 → zM → zO
  | 0, _, _ => none
  | n + 1, x2, M => zit ((M (zgr x0 0) 0) ≤ x2) (K31 M) (zck (zin x2 8) (zit ((M (zgr x0 1) (zix x2)) = x1) (zI x2 M) (F_X10_holder_L2 x0 x1 K31 n (x2 + 1) M)))
def F_X10_holder (t : Nat) (a1 : Int32) (M : zM) : zO := F_X10_holder_L2 t a1 (fun  (M1 : zM) => zI (-1) M1) zN 0 M
set_option maxHeartbeats 1000000 in
set_option maxRecDepth 20000 in
theorem ct_X10_holder_L2 (l : Launch) (hl : l.stackTraces = false) (G : zG) (x0 : Nat) (hx0 : zsh x0 = 10) (x1 : Int32) (K31 : zM → zO) (hK31 : ∀  (M : zM), zEv l G Y_X10_holder 1 0 31 [] [] M (K31 M)) : ∀ (n : Nat) (x2 : Int32) (M : zM), zEv l G Y_X10_holder 1 0 2 [(0, .ref (G.2.1 + x0)), (1, .int x1), (2, .int x2)] [] M (F_X10_holder_L2 x0 x1 K31 n x2 M) := by
  intro n
  induction n with
  | zero => intro x2 M; exact ev_none
  | succ n ih =>
    intro x2 M
    show zEv l G Y_X10_holder 1 0 2 [(0, .ref (G.2.1 + x0)), (1, .int x1), (2, .int x2)] [] M (zit ((M (zgr x0 0) 0) ≤ x2) (K31 M) (zck (zin x2 8) (zit ((M (zgr x0 1) (zix x2)) = x1) (zI x2 M) (F_X10_holder_L2 x0 x1 K31 n (x2 + 1) M))))
    refine ev_iload_n dd_X10_holder_2 2 rfl ?_
    refine ev_aload_n dd_X10_holder_3 0 rfl ?_
    refine ev_getR gf_RX10_22 dd_X10_holder_4 hx0 (by decide) ?_
    refine ev_getI gf_RX10_38 dd_X10_holder_7 (zg_10_0 hx0) (by decide) ?_
    refine ev_icmp_ge 31 dd_X10_holder_10 (by decide) ?_ ?_
    · refine ev_lv (lv' := []) [] rfl ?_
      exact hK31 _
    · refine ev_aload_n dd_X10_holder_13 0 rfl ?_
      refine ev_getR gf_RX10_9 dd_X10_holder_14 hx0 (by decide) ?_
      refine ev_iload_n dd_X10_holder_17 2 rfl ?_
      refine ev_iald dd_X10_holder_18 ((zg_10_1 hx0).1) ((zg_10_1 hx0).2) ?_
      refine ev_iload_n dd_X10_holder_19 1 rfl ?_
      refine ev_icmp_ne 25 dd_X10_holder_20 (by decide) ?_ ?_
      · refine ev_iinc (j := 2) (v := 1) (lv' := [(0, .ref (G.2.1 + x0)), (1, .int x1), (2, .int (x2 + 1))]) [1, 2, 0] dd_X10_holder_25 rfl (by decide) (by decide) rfl ?_
        refine ev_goto 2 dd_X10_holder_28 (by decide) ?_
        exact ih _ _
      · refine ev_lv (lv' := [(2, .int x2)]) [2] rfl ?_
        refine ev_iload_n dd_X10_holder_23 0 rfl ?_
        refine ev_lv (lv' := []) [] rfl ?_
        exact ev_iret dd_X10_holder_24 rfl (Nat.le_of_ble_eq_true rfl) rfl
set_option maxHeartbeats 1000000 in
set_option maxRecDepth 20000 in
theorem ct_X10_holder (l : Launch) (hl : l.stackTraces = false) (G : zG) (t : Nat) (ht : zsh t = 10) (a1 : Int32) (M : zM) : zMt l G Y_X10_holder 1 [.ref (G.2.1 + t), .int a1] M (F_X10_holder t a1 M) := by
  refine zMt_of (by decide +kernel) (Nat.le_of_ble_eq_true rfl) ?_
  show zEv l G Y_X10_holder 1 0 0 [(0, .ref (G.2.1 + t)), (1, .int a1)] [] M (F_X10_holder_L2 t a1 (fun  (M1 : zM) => zI (-1) M1) zN 0 M)
  refine ev_iconst (v := 0) dd_X10_holder_0 (by decide) ?_
  refine ev_istore_n (i := 2) (lv' := [(0, .ref (G.2.1 + t)), (1, .int a1), (2, .int 0)]) [1, 2, 0] dd_X10_holder_1 rfl (by decide) rfl ?_
  refine ct_X10_holder_L2 l hl G t ht a1 _ (fun M1 => ?_) zN _ _
  refine ev_iconst (v := (-1)) dd_X10_holder_31 (by decide) ?_
  exact ev_iret dd_X10_holder_32 rfl (Nat.le_of_ble_eq_true rfl) rfl
/-! X6_apart -/
theorem dd_X6_apart_0 : decode Y_X6_apart.2.1 0 = .ok (.aload_n 0, 1) := by decide +kernel
theorem dd_X6_apart_1 : decode Y_X6_apart.2.1 1 = .ok (.getfield 39, 3) := by decide +kernel
theorem dd_X6_apart_4 : decode Y_X6_apart.2.1 4 = .ok (.iload_n 1, 1) := by decide +kernel
theorem dd_X6_apart_5 : decode Y_X6_apart.2.1 5 = .ok (.iaload, 1) := by decide +kernel
theorem dd_X6_apart_6 : decode Y_X6_apart.2.1 6 = .ok (.aload_n 0, 1) := by decide +kernel
theorem dd_X6_apart_7 : decode Y_X6_apart.2.1 7 = .ok (.getfield 39, 3) := by decide +kernel
theorem dd_X6_apart_10 : decode Y_X6_apart.2.1 10 = .ok (.iload_n 2, 1) := by decide +kernel
theorem dd_X6_apart_11 : decode Y_X6_apart.2.1 11 = .ok (.iaload, 1) := by decide +kernel
theorem dd_X6_apart_12 : decode Y_X6_apart.2.1 12 = .ok (.isub, 1) := by decide +kernel
theorem dd_X6_apart_13 : decode Y_X6_apart.2.1 13 = .ok (.invokestatic 86, 3) := by decide +kernel
theorem dd_X6_apart_16 : decode Y_X6_apart.2.1 16 = .ok (.aload_n 0, 1) := by decide +kernel
theorem dd_X6_apart_17 : decode Y_X6_apart.2.1 17 = .ok (.getfield 43, 3) := by decide +kernel
theorem dd_X6_apart_20 : decode Y_X6_apart.2.1 20 = .ok (.iload_n 1, 1) := by decide +kernel
theorem dd_X6_apart_21 : decode Y_X6_apart.2.1 21 = .ok (.iaload, 1) := by decide +kernel
theorem dd_X6_apart_22 : decode Y_X6_apart.2.1 22 = .ok (.aload_n 0, 1) := by decide +kernel
theorem dd_X6_apart_23 : decode Y_X6_apart.2.1 23 = .ok (.getfield 43, 3) := by decide +kernel
theorem dd_X6_apart_26 : decode Y_X6_apart.2.1 26 = .ok (.iload_n 2, 1) := by decide +kernel
theorem dd_X6_apart_27 : decode Y_X6_apart.2.1 27 = .ok (.iaload, 1) := by decide +kernel
theorem dd_X6_apart_28 : decode Y_X6_apart.2.1 28 = .ok (.isub, 1) := by decide +kernel
theorem dd_X6_apart_29 : decode Y_X6_apart.2.1 29 = .ok (.invokestatic 86, 3) := by decide +kernel
theorem dd_X6_apart_32 : decode Y_X6_apart.2.1 32 = .ok (.iadd, 1) := by decide +kernel
theorem dd_X6_apart_33 : decode Y_X6_apart.2.1 33 = .ok (.ireturn, 1) := by decide +kernel
def F_X6_apart (t : Nat) (a1 : Int32) (a2 : Int32) (M : zM) : zO := zck (zin a1 8) (zck (zin a2 8) (zck (zin a1 8) (zck (zin a2 8) (zI ((if 0 ≤ ((M (zgr t 6) (zix a1)) - (M (zgr t 6) (zix a2))) then (M (zgr t 6) (zix a1)) - (M (zgr t 6) (zix a2)) else 0 - ((M (zgr t 6) (zix a1)) - (M (zgr t 6) (zix a2)))) + (if 0 ≤ ((M (zgr t 7) (zix a1)) - (M (zgr t 7) (zix a2))) then (M (zgr t 7) (zix a1)) - (M (zgr t 7) (zix a2)) else 0 - ((M (zgr t 7) (zix a1)) - (M (zgr t 7) (zix a2))))) M))))
set_option maxHeartbeats 1000000 in
set_option maxRecDepth 20000 in
theorem ct_X6_apart (l : Launch) (hl : l.stackTraces = false) (G : zG) (t : Nat) (ht : zsh t = 6) (a1 : Int32) (a2 : Int32) (M : zM) : zMt l G Y_X6_apart 8 [.ref (G.2.1 + t), .int a1, .int a2] M (F_X6_apart t a1 a2 M) := by
  refine zMt_of (by decide +kernel) (Nat.le_of_ble_eq_true rfl) ?_
  show zEv l G Y_X6_apart 8 0 0 [(0, .ref (G.2.1 + t)), (1, .int a1), (2, .int a2)] [] M (zck (zin a1 8) (zck (zin a2 8) (zck (zin a1 8) (zck (zin a2 8) (zI ((if 0 ≤ ((M (zgr t 6) (zix a1)) - (M (zgr t 6) (zix a2))) then (M (zgr t 6) (zix a1)) - (M (zgr t 6) (zix a2)) else 0 - ((M (zgr t 6) (zix a1)) - (M (zgr t 6) (zix a2)))) + (if 0 ≤ ((M (zgr t 7) (zix a1)) - (M (zgr t 7) (zix a2))) then (M (zgr t 7) (zix a1)) - (M (zgr t 7) (zix a2)) else 0 - ((M (zgr t 7) (zix a1)) - (M (zgr t 7) (zix a2))))) M)))))
  refine ev_aload_n dd_X6_apart_0 0 rfl ?_
  refine ev_getR gf_RX6_39 dd_X6_apart_1 ht (by decide) ?_
  refine ev_iload_n dd_X6_apart_4 1 rfl ?_
  refine ev_iald dd_X6_apart_5 ((zg_6_6 ht).1) ((zg_6_6 ht).2) ?_
  refine ev_aload_n dd_X6_apart_6 0 rfl ?_
  refine ev_getR gf_RX6_39 dd_X6_apart_7 ht (by decide) ?_
  refine ev_iload_n dd_X6_apart_10 2 rfl ?_
  refine ev_iald dd_X6_apart_11 ((zg_6_6 ht).1) ((zg_6_6 ht).2) ?_
  refine ev_isub dd_X6_apart_12 ?_
  refine ev_mabs mw_RX6_86 dd_X6_apart_13 (Nat.le_of_ble_eq_true rfl) (Nat.le_of_ble_eq_true rfl) ?_
  refine ev_aload_n dd_X6_apart_16 0 rfl ?_
  refine ev_getR gf_RX6_43 dd_X6_apart_17 ht (by decide) ?_
  refine ev_iload_n dd_X6_apart_20 1 rfl ?_
  refine ev_lv (lv' := [(0, .ref (G.2.1 + t)), (2, .int a2)]) [0, 2] rfl ?_
  refine ev_iald dd_X6_apart_21 ((zg_6_7 ht).1) ((zg_6_7 ht).2) ?_
  refine ev_aload_n dd_X6_apart_22 0 rfl ?_
  refine ev_lv (lv' := [(2, .int a2)]) [1] rfl ?_
  refine ev_getR gf_RX6_43 dd_X6_apart_23 ht (by decide) ?_
  refine ev_iload_n dd_X6_apart_26 0 rfl ?_
  refine ev_lv (lv' := []) [] rfl ?_
  refine ev_iald dd_X6_apart_27 ((zg_6_7 ht).1) ((zg_6_7 ht).2) ?_
  refine ev_isub dd_X6_apart_28 ?_
  refine ev_mabs mw_RX6_86 dd_X6_apart_29 (Nat.le_of_ble_eq_true rfl) (Nat.le_of_ble_eq_true rfl) ?_
  refine ev_iadd dd_X6_apart_32 ?_
  exact ev_iret dd_X6_apart_33 rfl (Nat.le_of_ble_eq_true rfl) rfl
/-! X6_lawHolds -/
theorem dd_X6_lawHolds_0 : decode Y_X6_lawHolds.2.1 0 = .ok (.aload_n 0, 1) := by decide +kernel
theorem dd_X6_lawHolds_1 : decode Y_X6_lawHolds.2.1 1 = .ok (.getfield 35, 3) := by decide +kernel
theorem dd_X6_lawHolds_4 : decode Y_X6_lawHolds.2.1 4 = .ok (.getfield 92, 3) := by decide +kernel
theorem dd_X6_lawHolds_7 : decode Y_X6_lawHolds.2.1 7 = .ok (.ifCond .ne 5, 3) := by decide +kernel
theorem dd_X6_lawHolds_10 : decode Y_X6_lawHolds.2.1 10 = .ok (.iconst 1, 1) := by decide +kernel
theorem dd_X6_lawHolds_11 : decode Y_X6_lawHolds.2.1 11 = .ok (.ireturn, 1) := by decide +kernel
theorem dd_X6_lawHolds_12 : decode Y_X6_lawHolds.2.1 12 = .ok (.aload_n 0, 1) := by decide +kernel
theorem dd_X6_lawHolds_13 : decode Y_X6_lawHolds.2.1 13 = .ok (.getfield 35, 3) := by decide +kernel
theorem dd_X6_lawHolds_16 : decode Y_X6_lawHolds.2.1 16 = .ok (.getfield 95, 3) := by decide +kernel
theorem dd_X6_lawHolds_19 : decode Y_X6_lawHolds.2.1 19 = .ok (.iconst 0, 1) := by decide +kernel
theorem dd_X6_lawHolds_20 : decode Y_X6_lawHolds.2.1 20 = .ok (.aload_n 0, 1) := by decide +kernel
theorem dd_X6_lawHolds_21 : decode Y_X6_lawHolds.2.1 21 = .ok (.getfield 28, 3) := by decide +kernel
theorem dd_X6_lawHolds_24 : decode Y_X6_lawHolds.2.1 24 = .ok (.getfield 98, 3) := by decide +kernel
theorem dd_X6_lawHolds_27 : decode Y_X6_lawHolds.2.1 27 = .ok (.iload_n 1, 1) := by decide +kernel
theorem dd_X6_lawHolds_28 : decode Y_X6_lawHolds.2.1 28 = .ok (.iaload, 1) := by decide +kernel
theorem dd_X6_lawHolds_29 : decode Y_X6_lawHolds.2.1 29 = .ok (.iastore, 1) := by decide +kernel
theorem dd_X6_lawHolds_30 : decode Y_X6_lawHolds.2.1 30 = .ok (.aload_n 0, 1) := by decide +kernel
theorem dd_X6_lawHolds_31 : decode Y_X6_lawHolds.2.1 31 = .ok (.getfield 35, 3) := by decide +kernel
theorem dd_X6_lawHolds_34 : decode Y_X6_lawHolds.2.1 34 = .ok (.getfield 95, 3) := by decide +kernel
theorem dd_X6_lawHolds_37 : decode Y_X6_lawHolds.2.1 37 = .ok (.iconst 1, 1) := by decide +kernel
theorem dd_X6_lawHolds_38 : decode Y_X6_lawHolds.2.1 38 = .ok (.aload_n 0, 1) := by decide +kernel
theorem dd_X6_lawHolds_39 : decode Y_X6_lawHolds.2.1 39 = .ok (.getfield 28, 3) := by decide +kernel
theorem dd_X6_lawHolds_42 : decode Y_X6_lawHolds.2.1 42 = .ok (.getfield 98, 3) := by decide +kernel
theorem dd_X6_lawHolds_45 : decode Y_X6_lawHolds.2.1 45 = .ok (.iload_n 2, 1) := by decide +kernel
theorem dd_X6_lawHolds_46 : decode Y_X6_lawHolds.2.1 46 = .ok (.iaload, 1) := by decide +kernel
theorem dd_X6_lawHolds_47 : decode Y_X6_lawHolds.2.1 47 = .ok (.iastore, 1) := by decide +kernel
theorem dd_X6_lawHolds_48 : decode Y_X6_lawHolds.2.1 48 = .ok (.aload_n 0, 1) := by decide +kernel
theorem dd_X6_lawHolds_49 : decode Y_X6_lawHolds.2.1 49 = .ok (.getfield 35, 3) := by decide +kernel
theorem dd_X6_lawHolds_52 : decode Y_X6_lawHolds.2.1 52 = .ok (.getfield 95, 3) := by decide +kernel
theorem dd_X6_lawHolds_55 : decode Y_X6_lawHolds.2.1 55 = .ok (.iconst 2, 1) := by decide +kernel
theorem dd_X6_lawHolds_56 : decode Y_X6_lawHolds.2.1 56 = .ok (.aload_n 0, 1) := by decide +kernel
theorem dd_X6_lawHolds_57 : decode Y_X6_lawHolds.2.1 57 = .ok (.iload_n 1, 1) := by decide +kernel
theorem dd_X6_lawHolds_58 : decode Y_X6_lawHolds.2.1 58 = .ok (.iload_n 2, 1) := by decide +kernel
theorem dd_X6_lawHolds_59 : decode Y_X6_lawHolds.2.1 59 = .ok (.invokevirtual 101, 3) := by decide +kernel
theorem dd_X6_lawHolds_62 : decode Y_X6_lawHolds.2.1 62 = .ok (.iastore, 1) := by decide +kernel
theorem dd_X6_lawHolds_63 : decode Y_X6_lawHolds.2.1 63 = .ok (.aload_n 0, 1) := by decide +kernel
theorem dd_X6_lawHolds_64 : decode Y_X6_lawHolds.2.1 64 = .ok (.getfield 35, 3) := by decide +kernel
theorem dd_X6_lawHolds_67 : decode Y_X6_lawHolds.2.1 67 = .ok (.getfield 95, 3) := by decide +kernel
theorem dd_X6_lawHolds_70 : decode Y_X6_lawHolds.2.1 70 = .ok (.iconst 3, 1) := by decide +kernel
theorem dd_X6_lawHolds_71 : decode Y_X6_lawHolds.2.1 71 = .ok (.aload_n 0, 1) := by decide +kernel
theorem dd_X6_lawHolds_72 : decode Y_X6_lawHolds.2.1 72 = .ok (.getfield 46, 3) := by decide +kernel
theorem dd_X6_lawHolds_75 : decode Y_X6_lawHolds.2.1 75 = .ok (.iload_n 1, 1) := by decide +kernel
theorem dd_X6_lawHolds_76 : decode Y_X6_lawHolds.2.1 76 = .ok (.iaload, 1) := by decide +kernel
theorem dd_X6_lawHolds_77 : decode Y_X6_lawHolds.2.1 77 = .ok (.iastore, 1) := by decide +kernel
theorem dd_X6_lawHolds_78 : decode Y_X6_lawHolds.2.1 78 = .ok (.aload_n 0, 1) := by decide +kernel
theorem dd_X6_lawHolds_79 : decode Y_X6_lawHolds.2.1 79 = .ok (.getfield 35, 3) := by decide +kernel
theorem dd_X6_lawHolds_82 : decode Y_X6_lawHolds.2.1 82 = .ok (.getfield 95, 3) := by decide +kernel
theorem dd_X6_lawHolds_85 : decode Y_X6_lawHolds.2.1 85 = .ok (.iconst 4, 1) := by decide +kernel
theorem dd_X6_lawHolds_86 : decode Y_X6_lawHolds.2.1 86 = .ok (.aload_n 0, 1) := by decide +kernel
theorem dd_X6_lawHolds_87 : decode Y_X6_lawHolds.2.1 87 = .ok (.getfield 46, 3) := by decide +kernel
theorem dd_X6_lawHolds_90 : decode Y_X6_lawHolds.2.1 90 = .ok (.iload_n 2, 1) := by decide +kernel
theorem dd_X6_lawHolds_91 : decode Y_X6_lawHolds.2.1 91 = .ok (.iaload, 1) := by decide +kernel
theorem dd_X6_lawHolds_92 : decode Y_X6_lawHolds.2.1 92 = .ok (.iastore, 1) := by decide +kernel
theorem dd_X6_lawHolds_93 : decode Y_X6_lawHolds.2.1 93 = .ok (.aload_n 0, 1) := by decide +kernel
theorem dd_X6_lawHolds_94 : decode Y_X6_lawHolds.2.1 94 = .ok (.getfield 35, 3) := by decide +kernel
theorem dd_X6_lawHolds_97 : decode Y_X6_lawHolds.2.1 97 = .ok (.getfield 95, 3) := by decide +kernel
theorem dd_X6_lawHolds_100 : decode Y_X6_lawHolds.2.1 100 = .ok (.iconst 5, 1) := by decide +kernel
theorem dd_X6_lawHolds_101 : decode Y_X6_lawHolds.2.1 101 = .ok (.iload_n 3, 1) := by decide +kernel
theorem dd_X6_lawHolds_102 : decode Y_X6_lawHolds.2.1 102 = .ok (.iastore, 1) := by decide +kernel
theorem dd_X6_lawHolds_103 : decode Y_X6_lawHolds.2.1 103 = .ok (.aload_n 0, 1) := by decide +kernel
theorem dd_X6_lawHolds_104 : decode Y_X6_lawHolds.2.1 104 = .ok (.getfield 35, 3) := by decide +kernel
theorem dd_X6_lawHolds_107 : decode Y_X6_lawHolds.2.1 107 = .ok (.getfield 95, 3) := by decide +kernel
theorem dd_X6_lawHolds_110 : decode Y_X6_lawHolds.2.1 110 = .ok (.bipush 6, 2) := by decide +kernel
theorem dd_X6_lawHolds_112 : decode Y_X6_lawHolds.2.1 112 = .ok (.iload 4, 2) := by decide +kernel
theorem dd_X6_lawHolds_114 : decode Y_X6_lawHolds.2.1 114 = .ok (.iastore, 1) := by decide +kernel
theorem dd_X6_lawHolds_115 : decode Y_X6_lawHolds.2.1 115 = .ok (.aload_n 0, 1) := by decide +kernel
theorem dd_X6_lawHolds_116 : decode Y_X6_lawHolds.2.1 116 = .ok (.getfield 35, 3) := by decide +kernel
theorem dd_X6_lawHolds_119 : decode Y_X6_lawHolds.2.1 119 = .ok (.invokevirtual 105, 3) := by decide +kernel
theorem dd_X6_lawHolds_122 : decode Y_X6_lawHolds.2.1 122 = .ok (.ireturn, 1) := by decide +kernel
def F_X6_lawHolds (t : Nat) (a1 : Int32) (a2 : Int32) (a3 : Int32) (a4 : Int32) (M : zM) : zO := zit ((M (zgr t 5) 4) = 0) (zck (zbo 1) (zI 1 M)) (zck (zin a1 8) (zck (zin 0 7) (zst (zup M (zgr (zgr t 5) 0) (zix 0) (M (zgr (zgr t 4) 1) (zix a1))) (fun M1 => zck (zin a2 8) (zck (zin 1 7) (zst (zup M1 (zgr (zgr t 5) 0) (zix 1) (M1 (zgr (zgr t 4) 1) (zix a2))) (fun M2 => zbI (F_X6_apart t a1 a2 M2) (fun r1 M3 => zck (zin 2 7) (zst (zup M3 (zgr (zgr t 5) 0) (zix 2) r1) (fun M4 => zck (zin a1 8) (zck (zin 3 7) (zst (zup M4 (zgr (zgr t 5) 0) (zix 3) (M4 (zgr t 8) (zix a1))) (fun M5 => zck (zin a2 8) (zck (zin 4 7) (zst (zup M5 (zgr (zgr t 5) 0) (zix 4) (M5 (zgr t 8) (zix a2))) (fun M6 => zck (zin 5 7) (zst (zup M6 (zgr (zgr t 5) 0) (zix 5) a3) (fun M7 => zck (zin 6 7) (zst (zup M7 (zgr (zgr t 5) 0) (zix 6) a4) (fun M8 => zbI (F_X0_holds (zgr t 5) M8) (fun r2 M9 => zck (zbo r2) (zI r2 M9))))))))))))))))))))))
set_option maxHeartbeats 1000000 in
set_option maxRecDepth 20000 in
theorem ct_X6_lawHolds (l : Launch) (hl : l.stackTraces = false) (G : zG) (t : Nat) (ht : zsh t = 6) (a1 : Int32) (a2 : Int32) (a3 : Int32) (a4 : Int32) (M : zM) : zMt l G Y_X6_lawHolds 9 [.ref (G.2.1 + t), .int a1, .int a2, .int a3, .int a4] M (F_X6_lawHolds t a1 a2 a3 a4 M) := by
  refine zMt_of (by decide +kernel) (Nat.le_of_ble_eq_true rfl) ?_
  show zEv l G Y_X6_lawHolds 9 0 0 [(0, .ref (G.2.1 + t)), (1, .int a1), (2, .int a2), (3, .int a3), (4, .int a4)] [] M (zit ((M (zgr t 5) 4) = 0) (zck (zbo 1) (zI 1 M)) (zck (zin a1 8) (zck (zin 0 7) (zst (zup M (zgr (zgr t 5) 0) (zix 0) (M (zgr (zgr t 4) 1) (zix a1))) (fun M1 => zck (zin a2 8) (zck (zin 1 7) (zst (zup M1 (zgr (zgr t 5) 0) (zix 1) (M1 (zgr (zgr t 4) 1) (zix a2))) (fun M2 => zbI (F_X6_apart t a1 a2 M2) (fun r1 M3 => zck (zin 2 7) (zst (zup M3 (zgr (zgr t 5) 0) (zix 2) r1) (fun M4 => zck (zin a1 8) (zck (zin 3 7) (zst (zup M4 (zgr (zgr t 5) 0) (zix 3) (M4 (zgr t 8) (zix a1))) (fun M5 => zck (zin a2 8) (zck (zin 4 7) (zst (zup M5 (zgr (zgr t 5) 0) (zix 4) (M5 (zgr t 8) (zix a2))) (fun M6 => zck (zin 5 7) (zst (zup M6 (zgr (zgr t 5) 0) (zix 5) a3) (fun M7 => zck (zin 6 7) (zst (zup M7 (zgr (zgr t 5) 0) (zix 6) a4) (fun M8 => zbI (F_X0_holds (zgr t 5) M8) (fun r2 M9 => zck (zbo r2) (zI r2 M9)))))))))))))))))))))))
  refine ev_aload_n dd_X6_lawHolds_0 0 rfl ?_
  refine ev_getR gf_RX6_35 dd_X6_lawHolds_1 ht (by decide) ?_
  refine ev_getI gf_RX6_92 dd_X6_lawHolds_4 (zg_6_5 ht) (by decide) ?_
  refine ev_if_ne 12 dd_X6_lawHolds_7 (by decide) ?_ ?_
  · refine ev_aload_n dd_X6_lawHolds_12 0 rfl ?_
    refine ev_getR gf_RX6_35 dd_X6_lawHolds_13 ht (by decide) ?_
    refine ev_getR gf_RX6_95 dd_X6_lawHolds_16 (zg_6_5 ht) (by decide) ?_
    refine ev_iconst (v := 0) dd_X6_lawHolds_19 (by decide) ?_
    refine ev_aload_n dd_X6_lawHolds_20 0 rfl ?_
    refine ev_getR gf_RX6_28 dd_X6_lawHolds_21 ht (by decide) ?_
    refine ev_getR gf_RX6_98 dd_X6_lawHolds_24 (zg_6_4 ht) (by decide) ?_
    refine ev_iload_n dd_X6_lawHolds_27 1 rfl ?_
    refine ev_iald dd_X6_lawHolds_28 ((zg_9_1 (zg_6_4 ht)).1) ((zg_9_1 (zg_6_4 ht)).2) ?_
    refine ev_iast dd_X6_lawHolds_29 ((zg_0_0 (zg_6_5 ht)).1) ((zg_0_0 (zg_6_5 ht)).2) ?_
    refine ev_st (fun M1 => ?_)
    refine ev_aload_n dd_X6_lawHolds_30 0 rfl ?_
    refine ev_getR gf_RX6_35 dd_X6_lawHolds_31 ht (by decide) ?_
    refine ev_getR gf_RX6_95 dd_X6_lawHolds_34 (zg_6_5 ht) (by decide) ?_
    refine ev_iconst (v := 1) dd_X6_lawHolds_37 (by decide) ?_
    refine ev_aload_n dd_X6_lawHolds_38 0 rfl ?_
    refine ev_getR gf_RX6_28 dd_X6_lawHolds_39 ht (by decide) ?_
    refine ev_getR gf_RX6_98 dd_X6_lawHolds_42 (zg_6_4 ht) (by decide) ?_
    refine ev_iload_n dd_X6_lawHolds_45 2 rfl ?_
    refine ev_iald dd_X6_lawHolds_46 ((zg_9_1 (zg_6_4 ht)).1) ((zg_9_1 (zg_6_4 ht)).2) ?_
    refine ev_iast dd_X6_lawHolds_47 ((zg_0_0 (zg_6_5 ht)).1) ((zg_0_0 (zg_6_5 ht)).2) ?_
    refine ev_st (fun M2 => ?_)
    refine ev_aload_n dd_X6_lawHolds_48 0 rfl ?_
    refine ev_getR gf_RX6_35 dd_X6_lawHolds_49 ht (by decide) ?_
    refine ev_getR gf_RX6_95 dd_X6_lawHolds_52 (zg_6_5 ht) (by decide) ?_
    refine ev_iconst (v := 2) dd_X6_lawHolds_55 (by decide) ?_
    refine ev_aload_n dd_X6_lawHolds_56 0 rfl ?_
    refine ev_iload_n dd_X6_lawHolds_57 1 rfl ?_
    refine ev_iload_n dd_X6_lawHolds_58 2 rfl ?_
    refine ev_callVI (As := [.int a1, .int a2]) cl_RX6_101 (ct_X6_apart l hl G t ht a1 a2 M2) dd_X6_lawHolds_59 ht (by decide) (Nat.le_of_ble_eq_true rfl) (Nat.le_of_ble_eq_true rfl) rfl rfl (fun r1 M3 => ?_)
    refine ev_iast dd_X6_lawHolds_62 ((zg_0_0 (zg_6_5 ht)).1) ((zg_0_0 (zg_6_5 ht)).2) ?_
    refine ev_st (fun M4 => ?_)
    refine ev_aload_n dd_X6_lawHolds_63 0 rfl ?_
    refine ev_getR gf_RX6_35 dd_X6_lawHolds_64 ht (by decide) ?_
    refine ev_getR gf_RX6_95 dd_X6_lawHolds_67 (zg_6_5 ht) (by decide) ?_
    refine ev_iconst (v := 3) dd_X6_lawHolds_70 (by decide) ?_
    refine ev_aload_n dd_X6_lawHolds_71 0 rfl ?_
    refine ev_getR gf_RX6_46 dd_X6_lawHolds_72 ht (by decide) ?_
    refine ev_iload_n dd_X6_lawHolds_75 1 rfl ?_
    refine ev_lv (lv' := [(0, .ref (G.2.1 + t)), (2, .int a2), (3, .int a3), (4, .int a4)]) [0, 2, 3, 4] rfl ?_
    refine ev_iald dd_X6_lawHolds_76 ((zg_6_8 ht).1) ((zg_6_8 ht).2) ?_
    refine ev_iast dd_X6_lawHolds_77 ((zg_0_0 (zg_6_5 ht)).1) ((zg_0_0 (zg_6_5 ht)).2) ?_
    refine ev_st (fun M5 => ?_)
    refine ev_aload_n dd_X6_lawHolds_78 0 rfl ?_
    refine ev_getR gf_RX6_35 dd_X6_lawHolds_79 ht (by decide) ?_
    refine ev_getR gf_RX6_95 dd_X6_lawHolds_82 (zg_6_5 ht) (by decide) ?_
    refine ev_iconst (v := 4) dd_X6_lawHolds_85 (by decide) ?_
    refine ev_aload_n dd_X6_lawHolds_86 0 rfl ?_
    refine ev_getR gf_RX6_46 dd_X6_lawHolds_87 ht (by decide) ?_
    refine ev_iload_n dd_X6_lawHolds_90 1 rfl ?_
    refine ev_lv (lv' := [(0, .ref (G.2.1 + t)), (3, .int a3), (4, .int a4)]) [0, 2, 3] rfl ?_
    refine ev_iald dd_X6_lawHolds_91 ((zg_6_8 ht).1) ((zg_6_8 ht).2) ?_
    refine ev_iast dd_X6_lawHolds_92 ((zg_0_0 (zg_6_5 ht)).1) ((zg_0_0 (zg_6_5 ht)).2) ?_
    refine ev_st (fun M6 => ?_)
    refine ev_aload_n dd_X6_lawHolds_93 0 rfl ?_
    refine ev_getR gf_RX6_35 dd_X6_lawHolds_94 ht (by decide) ?_
    refine ev_getR gf_RX6_95 dd_X6_lawHolds_97 (zg_6_5 ht) (by decide) ?_
    refine ev_iconst (v := 5) dd_X6_lawHolds_100 (by decide) ?_
    refine ev_iload_n dd_X6_lawHolds_101 1 rfl ?_
    refine ev_lv (lv' := [(0, .ref (G.2.1 + t)), (4, .int a4)]) [0, 2] rfl ?_
    refine ev_iast dd_X6_lawHolds_102 ((zg_0_0 (zg_6_5 ht)).1) ((zg_0_0 (zg_6_5 ht)).2) ?_
    refine ev_st (fun M7 => ?_)
    refine ev_aload_n dd_X6_lawHolds_103 0 rfl ?_
    refine ev_getR gf_RX6_35 dd_X6_lawHolds_104 ht (by decide) ?_
    refine ev_getR gf_RX6_95 dd_X6_lawHolds_107 (zg_6_5 ht) (by decide) ?_
    refine ev_bipush (v := 6) dd_X6_lawHolds_110 (by decide) ?_
    refine ev_iload dd_X6_lawHolds_112 1 rfl ?_
    refine ev_lv (lv' := [(0, .ref (G.2.1 + t))]) [0] rfl ?_
    refine ev_iast dd_X6_lawHolds_114 ((zg_0_0 (zg_6_5 ht)).1) ((zg_0_0 (zg_6_5 ht)).2) ?_
    refine ev_st (fun M8 => ?_)
    refine ev_aload_n dd_X6_lawHolds_115 0 rfl ?_
    refine ev_lv (lv' := []) [] rfl ?_
    refine ev_getR gf_RX6_35 dd_X6_lawHolds_116 ht (by decide) ?_
    refine ev_callVI (As := []) cl_RX6_105 (ct_X0_holds l hl G (zgr t 5) (zg_6_5 ht) M8) dd_X6_lawHolds_119 (zg_6_5 ht) (by decide) (Nat.le_of_ble_eq_true rfl) (Nat.le_of_ble_eq_true rfl) rfl rfl (fun r2 M9 => ?_)
    exact ev_zret dd_X6_lawHolds_122 rfl (Nat.le_of_ble_eq_true rfl) rfl
  · refine ev_lv (lv' := []) [] rfl ?_
    refine ev_iconst (v := 1) dd_X6_lawHolds_10 (by decide) ?_
    exact ev_zret dd_X6_lawHolds_11 rfl (Nat.le_of_ble_eq_true rfl) rfl
/-! X10_letsWith -/
theorem dd_X10_letsWith_0 : decode Y_X10_letsWith.2.1 0 = .ok (.aload_n 0, 1) := by decide +kernel
theorem dd_X10_letsWith_1 : decode Y_X10_letsWith.2.1 1 = .ok (.getfield 22, 3) := by decide +kernel
theorem dd_X10_letsWith_4 : decode Y_X10_letsWith.2.1 4 = .ok (.iload_n 3, 1) := by decide +kernel
theorem dd_X10_letsWith_5 : decode Y_X10_letsWith.2.1 5 = .ok (.iload 4, 2) := by decide +kernel
theorem dd_X10_letsWith_7 : decode Y_X10_letsWith.2.1 7 = .ok (.aload_n 0, 1) := by decide +kernel
theorem dd_X10_letsWith_8 : decode Y_X10_letsWith.2.1 8 = .ok (.iload_n 1, 1) := by decide +kernel
theorem dd_X10_letsWith_9 : decode Y_X10_letsWith.2.1 9 = .ok (.iload_n 2, 1) := by decide +kernel
theorem dd_X10_letsWith_10 : decode Y_X10_letsWith.2.1 10 = .ok (.invokevirtual 43, 3) := by decide +kernel
theorem dd_X10_letsWith_13 : decode Y_X10_letsWith.2.1 13 = .ok (.aload_n 0, 1) := by decide +kernel
theorem dd_X10_letsWith_14 : decode Y_X10_letsWith.2.1 14 = .ok (.getfield 18, 3) := by decide +kernel
theorem dd_X10_letsWith_17 : decode Y_X10_letsWith.2.1 17 = .ok (.invokevirtual 56, 3) := by decide +kernel
theorem dd_X10_letsWith_20 : decode Y_X10_letsWith.2.1 20 = .ok (.ifCond .eq 30, 3) := by decide +kernel
theorem dd_X10_letsWith_23 : decode Y_X10_letsWith.2.1 23 = .ok (.aload_n 0, 1) := by decide +kernel
theorem dd_X10_letsWith_24 : decode Y_X10_letsWith.2.1 24 = .ok (.getfield 22, 3) := by decide +kernel
theorem dd_X10_letsWith_27 : decode Y_X10_letsWith.2.1 27 = .ok (.iload 4, 2) := by decide +kernel
theorem dd_X10_letsWith_29 : decode Y_X10_letsWith.2.1 29 = .ok (.iload_n 3, 1) := by decide +kernel
theorem dd_X10_letsWith_30 : decode Y_X10_letsWith.2.1 30 = .ok (.aload_n 0, 1) := by decide +kernel
theorem dd_X10_letsWith_31 : decode Y_X10_letsWith.2.1 31 = .ok (.iload_n 2, 1) := by decide +kernel
theorem dd_X10_letsWith_32 : decode Y_X10_letsWith.2.1 32 = .ok (.iload_n 1, 1) := by decide +kernel
theorem dd_X10_letsWith_33 : decode Y_X10_letsWith.2.1 33 = .ok (.invokevirtual 43, 3) := by decide +kernel
theorem dd_X10_letsWith_36 : decode Y_X10_letsWith.2.1 36 = .ok (.aload_n 0, 1) := by decide +kernel
theorem dd_X10_letsWith_37 : decode Y_X10_letsWith.2.1 37 = .ok (.getfield 18, 3) := by decide +kernel
theorem dd_X10_letsWith_40 : decode Y_X10_letsWith.2.1 40 = .ok (.invokevirtual 56, 3) := by decide +kernel
theorem dd_X10_letsWith_43 : decode Y_X10_letsWith.2.1 43 = .ok (.ifCond .eq 7, 3) := by decide +kernel
theorem dd_X10_letsWith_46 : decode Y_X10_letsWith.2.1 46 = .ok (.iconst 1, 1) := by decide +kernel
theorem dd_X10_letsWith_47 : decode Y_X10_letsWith.2.1 47 = .ok (.goto 4, 3) := by decide +kernel
theorem dd_X10_letsWith_50 : decode Y_X10_letsWith.2.1 50 = .ok (.iconst 0, 1) := by decide +kernel
theorem dd_X10_letsWith_51 : decode Y_X10_letsWith.2.1 51 = .ok (.ireturn, 1) := by decide +kernel
def F_X10_letsWith (t : Nat) (a1 : Int32) (a2 : Int32) (a3 : Int32) (a4 : Int32) (M : zM) : zO := zbI (F_X10_owes t a1 a2 M) (fun r1 M1 => zbI (F_X6_lawHolds (zgr t 0) a3 a4 r1 (M1 t 3) M1) (fun r2 M2 => zjo (fun (w1 : Int32) (M6 : zM) => zck (zbo w1) (zI w1 M6)) (fun (k1 : Int32 → zM → zO) => zjo (fun  (M5 : zM) => k1 0 M5) (fun (k2 : zM → zO) => zit (r2 = 0) (k2 M2) (zbI (F_X10_owes t a2 a1 M2) (fun r3 M3 => zbI (F_X6_lawHolds (zgr t 0) a4 a3 r3 (M3 t 3) M3) (fun r4 M4 => zit (r4 = 0) (k2 M4) (k1 1 M4))))))))
set_option maxHeartbeats 1000000 in
set_option maxRecDepth 20000 in
theorem ct_X10_letsWith (l : Launch) (hl : l.stackTraces = false) (G : zG) (t : Nat) (ht : zsh t = 10) (a1 : Int32) (a2 : Int32) (a3 : Int32) (a4 : Int32) (M : zM) : zMt l G Y_X10_letsWith 10 [.ref (G.2.1 + t), .int a1, .int a2, .int a3, .int a4] M (F_X10_letsWith t a1 a2 a3 a4 M) := by
  refine zMt_of (by decide +kernel) (Nat.le_of_ble_eq_true rfl) ?_
  show zEv l G Y_X10_letsWith 10 0 0 [(0, .ref (G.2.1 + t)), (1, .int a1), (2, .int a2), (3, .int a3), (4, .int a4)] [] M (zbI (F_X10_owes t a1 a2 M) (fun r1 M1 => zbI (F_X6_lawHolds (zgr t 0) a3 a4 r1 (M1 t 3) M1) (fun r2 M2 => zjo (fun (w1 : Int32) (M6 : zM) => zck (zbo w1) (zI w1 M6)) (fun (k1 : Int32 → zM → zO) => zjo (fun  (M5 : zM) => k1 0 M5) (fun (k2 : zM → zO) => zit (r2 = 0) (k2 M2) (zbI (F_X10_owes t a2 a1 M2) (fun r3 M3 => zbI (F_X6_lawHolds (zgr t 0) a4 a3 r3 (M3 t 3) M3) (fun r4 M4 => zit (r4 = 0) (k2 M4) (k1 1 M4)))))))))
  refine ev_aload_n dd_X10_letsWith_0 0 rfl ?_
  refine ev_getR gf_RX10_22 dd_X10_letsWith_1 ht (by decide) ?_
  refine ev_iload_n dd_X10_letsWith_4 3 rfl ?_
  refine ev_iload dd_X10_letsWith_5 4 rfl ?_
  refine ev_aload_n dd_X10_letsWith_7 0 rfl ?_
  refine ev_iload_n dd_X10_letsWith_8 1 rfl ?_
  refine ev_iload_n dd_X10_letsWith_9 2 rfl ?_
  refine ev_callVI (As := [.int a1, .int a2]) cl_RX10_43 (ct_X10_owes l hl G t ht a1 a2 M) dd_X10_letsWith_10 ht (by decide) (Nat.le_of_ble_eq_true rfl) (Nat.le_of_ble_eq_true rfl) rfl rfl (fun r1 M1 => ?_)
  refine ev_aload_n dd_X10_letsWith_13 0 rfl ?_
  refine ev_getI gf_RX10_18 dd_X10_letsWith_14 ht (by decide) ?_
  refine ev_callVI (As := [.int a3, .int a4, .int r1, .int (M1 t 3)]) cl_RX10_56 (ct_X6_lawHolds l hl G (zgr t 0) (zg_10_0 ht) a3 a4 r1 (M1 t 3) M1) dd_X10_letsWith_17 (zg_10_0 ht) (by decide) (Nat.le_of_ble_eq_true rfl) (Nat.le_of_ble_eq_true rfl) rfl rfl (fun r2 M2 => ?_)
  refine ev_jo (fun (k1 : Int32 → zM → zO) => ∀ (w1 : Int32) (M6 : zM), zEv l G Y_X10_letsWith 10 0 51 [] [.int w1] M6 (k1 w1 M6)) ?_ (fun k1 hk1 => ?_)
  · intro w1 M6
    exact ev_zret dd_X10_letsWith_51 rfl (Nat.le_of_ble_eq_true rfl) rfl
  · refine ev_jo (fun (k2 : zM → zO) => ∀  (M5 : zM), zEv l G Y_X10_letsWith 10 0 50 [] [] M5 (k2 M5)) ?_ (fun k2 hk2 => ?_)
    · intro M5
      refine ev_iconst (v := 0) dd_X10_letsWith_50 (by decide) ?_
      exact hk1 _ _
    · refine ev_if_eq 50 dd_X10_letsWith_20 (by decide) ?_ ?_
      · refine ev_lv (lv' := []) [] rfl ?_
        exact hk2 _
      · refine ev_aload_n dd_X10_letsWith_23 0 rfl ?_
        refine ev_getR gf_RX10_22 dd_X10_letsWith_24 ht (by decide) ?_
        refine ev_iload dd_X10_letsWith_27 4 rfl ?_
        refine ev_lv (lv' := [(0, .ref (G.2.1 + t)), (1, .int a1), (2, .int a2), (3, .int a3)]) [0, 1, 2, 3] rfl ?_
        refine ev_iload_n dd_X10_letsWith_29 3 rfl ?_
        refine ev_lv (lv' := [(0, .ref (G.2.1 + t)), (1, .int a1), (2, .int a2)]) [0, 1, 2] rfl ?_
        refine ev_aload_n dd_X10_letsWith_30 0 rfl ?_
        refine ev_iload_n dd_X10_letsWith_31 2 rfl ?_
        refine ev_lv (lv' := [(0, .ref (G.2.1 + t)), (1, .int a1)]) [0, 1] rfl ?_
        refine ev_iload_n dd_X10_letsWith_32 1 rfl ?_
        refine ev_lv (lv' := [(0, .ref (G.2.1 + t))]) [0] rfl ?_
        refine ev_callVI (As := [.int a2, .int a1]) cl_RX10_43 (ct_X10_owes l hl G t ht a2 a1 M2) dd_X10_letsWith_33 ht (by decide) (Nat.le_of_ble_eq_true rfl) (Nat.le_of_ble_eq_true rfl) rfl rfl (fun r3 M3 => ?_)
        refine ev_aload_n dd_X10_letsWith_36 0 rfl ?_
        refine ev_lv (lv' := []) [] rfl ?_
        refine ev_getI gf_RX10_18 dd_X10_letsWith_37 ht (by decide) ?_
        refine ev_callVI (As := [.int a4, .int a3, .int r3, .int (M3 t 3)]) cl_RX10_56 (ct_X6_lawHolds l hl G (zgr t 0) (zg_10_0 ht) a4 a3 r3 (M3 t 3) M3) dd_X10_letsWith_40 (zg_10_0 ht) (by decide) (Nat.le_of_ble_eq_true rfl) (Nat.le_of_ble_eq_true rfl) rfl rfl (fun r4 M4 => ?_)
        refine ev_if_eq 50 dd_X10_letsWith_43 (by decide) ?_ ?_
        · exact hk2 _
        · refine ev_iconst (v := 1) dd_X10_letsWith_46 (by decide) ?_
          refine ev_goto 51 dd_X10_letsWith_47 (by decide) ?_
          exact hk1 _ _
/-! X10_lets -/
theorem dd_X10_lets_0 : decode Y_X10_lets.2.1 0 = .ok (.aload_n 0, 1) := by decide +kernel
theorem dd_X10_lets_1 : decode Y_X10_lets.2.1 1 = .ok (.iload_n 1, 1) := by decide +kernel
theorem dd_X10_lets_2 : decode Y_X10_lets.2.1 2 = .ok (.iload_n 2, 1) := by decide +kernel
theorem dd_X10_lets_3 : decode Y_X10_lets.2.1 3 = .ok (.aload_n 0, 1) := by decide +kernel
theorem dd_X10_lets_4 : decode Y_X10_lets.2.1 4 = .ok (.getfield 9, 3) := by decide +kernel
theorem dd_X10_lets_7 : decode Y_X10_lets.2.1 7 = .ok (.iload_n 1, 1) := by decide +kernel
theorem dd_X10_lets_8 : decode Y_X10_lets.2.1 8 = .ok (.iaload, 1) := by decide +kernel
theorem dd_X10_lets_9 : decode Y_X10_lets.2.1 9 = .ok (.aload_n 0, 1) := by decide +kernel
theorem dd_X10_lets_10 : decode Y_X10_lets.2.1 10 = .ok (.getfield 9, 3) := by decide +kernel
theorem dd_X10_lets_13 : decode Y_X10_lets.2.1 13 = .ok (.iload_n 2, 1) := by decide +kernel
theorem dd_X10_lets_14 : decode Y_X10_lets.2.1 14 = .ok (.iaload, 1) := by decide +kernel
theorem dd_X10_lets_15 : decode Y_X10_lets.2.1 15 = .ok (.invokevirtual 52, 3) := by decide +kernel
theorem dd_X10_lets_18 : decode Y_X10_lets.2.1 18 = .ok (.ireturn, 1) := by decide +kernel
def F_X10_lets (t : Nat) (a1 : Int32) (a2 : Int32) (M : zM) : zO := zck (zin a1 8) (zck (zin a2 8) (zbI (F_X10_letsWith t a1 a2 (M (zgr t 1) (zix a1)) (M (zgr t 1) (zix a2)) M) (fun r1 M1 => zck (zbo r1) (zI r1 M1))))
set_option maxHeartbeats 1000000 in
set_option maxRecDepth 20000 in
theorem ct_X10_lets (l : Launch) (hl : l.stackTraces = false) (G : zG) (t : Nat) (ht : zsh t = 10) (a1 : Int32) (a2 : Int32) (M : zM) : zMt l G Y_X10_lets 11 [.ref (G.2.1 + t), .int a1, .int a2] M (F_X10_lets t a1 a2 M) := by
  refine zMt_of (by decide +kernel) (Nat.le_of_ble_eq_true rfl) ?_
  show zEv l G Y_X10_lets 11 0 0 [(0, .ref (G.2.1 + t)), (1, .int a1), (2, .int a2)] [] M (zck (zin a1 8) (zck (zin a2 8) (zbI (F_X10_letsWith t a1 a2 (M (zgr t 1) (zix a1)) (M (zgr t 1) (zix a2)) M) (fun r1 M1 => zck (zbo r1) (zI r1 M1)))))
  refine ev_aload_n dd_X10_lets_0 0 rfl ?_
  refine ev_iload_n dd_X10_lets_1 1 rfl ?_
  refine ev_iload_n dd_X10_lets_2 2 rfl ?_
  refine ev_aload_n dd_X10_lets_3 0 rfl ?_
  refine ev_getR gf_RX10_9 dd_X10_lets_4 ht (by decide) ?_
  refine ev_iload_n dd_X10_lets_7 1 rfl ?_
  refine ev_lv (lv' := [(0, .ref (G.2.1 + t)), (2, .int a2)]) [0, 2] rfl ?_
  refine ev_iald dd_X10_lets_8 ((zg_10_1 ht).1) ((zg_10_1 ht).2) ?_
  refine ev_aload_n dd_X10_lets_9 0 rfl ?_
  refine ev_lv (lv' := [(2, .int a2)]) [1] rfl ?_
  refine ev_getR gf_RX10_9 dd_X10_lets_10 ht (by decide) ?_
  refine ev_iload_n dd_X10_lets_13 0 rfl ?_
  refine ev_lv (lv' := []) [] rfl ?_
  refine ev_iald dd_X10_lets_14 ((zg_10_1 ht).1) ((zg_10_1 ht).2) ?_
  refine ev_callVI (As := [.int a1, .int a2, .int (M (zgr t 1) (zix a1)), .int (M (zgr t 1) (zix a2))]) cl_RX10_52 (ct_X10_letsWith l hl G t ht a1 a2 (M (zgr t 1) (zix a1)) (M (zgr t 1) (zix a2)) M) dd_X10_lets_15 ht (by decide) (Nat.le_of_ble_eq_true rfl) (Nat.le_of_ble_eq_true rfl) rfl rfl (fun r1 M1 => ?_)
  exact ev_zret dd_X10_lets_18 rfl (Nat.le_of_ble_eq_true rfl) rfl
/-! X10_lieOnEachOther -/
theorem dd_X10_lieOnEachOther_0 : decode Y_X10_lieOnEachOther.2.1 0 = .ok (.aload_n 0, 1) := by decide +kernel
theorem dd_X10_lieOnEachOther_1 : decode Y_X10_lieOnEachOther.2.1 1 = .ok (.getfield 9, 3) := by decide +kernel
theorem dd_X10_lieOnEachOther_4 : decode Y_X10_lieOnEachOther.2.1 4 = .ok (.iload_n 1, 1) := by decide +kernel
theorem dd_X10_lieOnEachOther_5 : decode Y_X10_lieOnEachOther.2.1 5 = .ok (.iaload, 1) := by decide +kernel
theorem dd_X10_lieOnEachOther_6 : decode Y_X10_lieOnEachOther.2.1 6 = .ok (.istore 4, 2) := by decide +kernel
theorem dd_X10_lieOnEachOther_8 : decode Y_X10_lieOnEachOther.2.1 8 = .ok (.aload_n 0, 1) := by decide +kernel
theorem dd_X10_lieOnEachOther_9 : decode Y_X10_lieOnEachOther.2.1 9 = .ok (.getfield 9, 3) := by decide +kernel
theorem dd_X10_lieOnEachOther_12 : decode Y_X10_lieOnEachOther.2.1 12 = .ok (.iload_n 2, 1) := by decide +kernel
theorem dd_X10_lieOnEachOther_13 : decode Y_X10_lieOnEachOther.2.1 13 = .ok (.iaload, 1) := by decide +kernel
theorem dd_X10_lieOnEachOther_14 : decode Y_X10_lieOnEachOther.2.1 14 = .ok (.istore 5, 2) := by decide +kernel
theorem dd_X10_lieOnEachOther_16 : decode Y_X10_lieOnEachOther.2.1 16 = .ok (.aload_n 0, 1) := by decide +kernel
theorem dd_X10_lieOnEachOther_17 : decode Y_X10_lieOnEachOther.2.1 17 = .ok (.getfield 22, 3) := by decide +kernel
theorem dd_X10_lieOnEachOther_20 : decode Y_X10_lieOnEachOther.2.1 20 = .ok (.getfield 91, 3) := by decide +kernel
theorem dd_X10_lieOnEachOther_23 : decode Y_X10_lieOnEachOther.2.1 23 = .ok (.iload 4, 2) := by decide +kernel
theorem dd_X10_lieOnEachOther_25 : decode Y_X10_lieOnEachOther.2.1 25 = .ok (.iaload, 1) := by decide +kernel
theorem dd_X10_lieOnEachOther_26 : decode Y_X10_lieOnEachOther.2.1 26 = .ok (.aload_n 0, 1) := by decide +kernel
theorem dd_X10_lieOnEachOther_27 : decode Y_X10_lieOnEachOther.2.1 27 = .ok (.getfield 22, 3) := by decide +kernel
theorem dd_X10_lieOnEachOther_30 : decode Y_X10_lieOnEachOther.2.1 30 = .ok (.getfield 91, 3) := by decide +kernel
theorem dd_X10_lieOnEachOther_33 : decode Y_X10_lieOnEachOther.2.1 33 = .ok (.iload 5, 2) := by decide +kernel
theorem dd_X10_lieOnEachOther_35 : decode Y_X10_lieOnEachOther.2.1 35 = .ok (.iaload, 1) := by decide +kernel
theorem dd_X10_lieOnEachOther_36 : decode Y_X10_lieOnEachOther.2.1 36 = .ok (.invokestatic 47, 3) := by decide +kernel
theorem dd_X10_lieOnEachOther_39 : decode Y_X10_lieOnEachOther.2.1 39 = .ok (.iload_n 3, 1) := by decide +kernel
theorem dd_X10_lieOnEachOther_40 : decode Y_X10_lieOnEachOther.2.1 40 = .ok (.iadd, 1) := by decide +kernel
theorem dd_X10_lieOnEachOther_41 : decode Y_X10_lieOnEachOther.2.1 41 = .ok (.istore 6, 2) := by decide +kernel
theorem dd_X10_lieOnEachOther_43 : decode Y_X10_lieOnEachOther.2.1 43 = .ok (.aload_n 0, 1) := by decide +kernel
theorem dd_X10_lieOnEachOther_44 : decode Y_X10_lieOnEachOther.2.1 44 = .ok (.getfield 22, 3) := by decide +kernel
theorem dd_X10_lieOnEachOther_47 : decode Y_X10_lieOnEachOther.2.1 47 = .ok (.getfield 91, 3) := by decide +kernel
theorem dd_X10_lieOnEachOther_50 : decode Y_X10_lieOnEachOther.2.1 50 = .ok (.iload 4, 2) := by decide +kernel
theorem dd_X10_lieOnEachOther_52 : decode Y_X10_lieOnEachOther.2.1 52 = .ok (.iaload, 1) := by decide +kernel
theorem dd_X10_lieOnEachOther_53 : decode Y_X10_lieOnEachOther.2.1 53 = .ok (.aload_n 0, 1) := by decide +kernel
theorem dd_X10_lieOnEachOther_54 : decode Y_X10_lieOnEachOther.2.1 54 = .ok (.getfield 22, 3) := by decide +kernel
theorem dd_X10_lieOnEachOther_57 : decode Y_X10_lieOnEachOther.2.1 57 = .ok (.getfield 59, 3) := by decide +kernel
theorem dd_X10_lieOnEachOther_60 : decode Y_X10_lieOnEachOther.2.1 60 = .ok (.getfield 63, 3) := by decide +kernel
theorem dd_X10_lieOnEachOther_63 : decode Y_X10_lieOnEachOther.2.1 63 = .ok (.iload 4, 2) := by decide +kernel
theorem dd_X10_lieOnEachOther_65 : decode Y_X10_lieOnEachOther.2.1 65 = .ok (.iaload, 1) := by decide +kernel
theorem dd_X10_lieOnEachOther_66 : decode Y_X10_lieOnEachOther.2.1 66 = .ok (.iadd, 1) := by decide +kernel
theorem dd_X10_lieOnEachOther_67 : decode Y_X10_lieOnEachOther.2.1 67 = .ok (.aload_n 0, 1) := by decide +kernel
theorem dd_X10_lieOnEachOther_68 : decode Y_X10_lieOnEachOther.2.1 68 = .ok (.getfield 22, 3) := by decide +kernel
theorem dd_X10_lieOnEachOther_71 : decode Y_X10_lieOnEachOther.2.1 71 = .ok (.getfield 91, 3) := by decide +kernel
theorem dd_X10_lieOnEachOther_74 : decode Y_X10_lieOnEachOther.2.1 74 = .ok (.iload 5, 2) := by decide +kernel
theorem dd_X10_lieOnEachOther_76 : decode Y_X10_lieOnEachOther.2.1 76 = .ok (.iaload, 1) := by decide +kernel
theorem dd_X10_lieOnEachOther_77 : decode Y_X10_lieOnEachOther.2.1 77 = .ok (.aload_n 0, 1) := by decide +kernel
theorem dd_X10_lieOnEachOther_78 : decode Y_X10_lieOnEachOther.2.1 78 = .ok (.getfield 22, 3) := by decide +kernel
theorem dd_X10_lieOnEachOther_81 : decode Y_X10_lieOnEachOther.2.1 81 = .ok (.getfield 59, 3) := by decide +kernel
theorem dd_X10_lieOnEachOther_84 : decode Y_X10_lieOnEachOther.2.1 84 = .ok (.getfield 63, 3) := by decide +kernel
theorem dd_X10_lieOnEachOther_87 : decode Y_X10_lieOnEachOther.2.1 87 = .ok (.iload 5, 2) := by decide +kernel
theorem dd_X10_lieOnEachOther_89 : decode Y_X10_lieOnEachOther.2.1 89 = .ok (.iaload, 1) := by decide +kernel
theorem dd_X10_lieOnEachOther_90 : decode Y_X10_lieOnEachOther.2.1 90 = .ok (.iadd, 1) := by decide +kernel
theorem dd_X10_lieOnEachOther_91 : decode Y_X10_lieOnEachOther.2.1 91 = .ok (.invokestatic 94, 3) := by decide +kernel
theorem dd_X10_lieOnEachOther_94 : decode Y_X10_lieOnEachOther.2.1 94 = .ok (.iload_n 3, 1) := by decide +kernel
theorem dd_X10_lieOnEachOther_95 : decode Y_X10_lieOnEachOther.2.1 95 = .ok (.isub, 1) := by decide +kernel
theorem dd_X10_lieOnEachOther_96 : decode Y_X10_lieOnEachOther.2.1 96 = .ok (.istore 7, 2) := by decide +kernel
theorem dd_X10_lieOnEachOther_98 : decode Y_X10_lieOnEachOther.2.1 98 = .ok (.aload_n 0, 1) := by decide +kernel
theorem dd_X10_lieOnEachOther_99 : decode Y_X10_lieOnEachOther.2.1 99 = .ok (.getfield 22, 3) := by decide +kernel
theorem dd_X10_lieOnEachOther_102 : decode Y_X10_lieOnEachOther.2.1 102 = .ok (.getfield 97, 3) := by decide +kernel
theorem dd_X10_lieOnEachOther_105 : decode Y_X10_lieOnEachOther.2.1 105 = .ok (.iload 4, 2) := by decide +kernel
theorem dd_X10_lieOnEachOther_107 : decode Y_X10_lieOnEachOther.2.1 107 = .ok (.iaload, 1) := by decide +kernel
theorem dd_X10_lieOnEachOther_108 : decode Y_X10_lieOnEachOther.2.1 108 = .ok (.aload_n 0, 1) := by decide +kernel
theorem dd_X10_lieOnEachOther_109 : decode Y_X10_lieOnEachOther.2.1 109 = .ok (.getfield 22, 3) := by decide +kernel
theorem dd_X10_lieOnEachOther_112 : decode Y_X10_lieOnEachOther.2.1 112 = .ok (.getfield 97, 3) := by decide +kernel
theorem dd_X10_lieOnEachOther_115 : decode Y_X10_lieOnEachOther.2.1 115 = .ok (.iload 5, 2) := by decide +kernel
theorem dd_X10_lieOnEachOther_117 : decode Y_X10_lieOnEachOther.2.1 117 = .ok (.iaload, 1) := by decide +kernel
theorem dd_X10_lieOnEachOther_118 : decode Y_X10_lieOnEachOther.2.1 118 = .ok (.if_icmp .ne 14, 3) := by decide +kernel
theorem dd_X10_lieOnEachOther_121 : decode Y_X10_lieOnEachOther.2.1 121 = .ok (.iload 6, 2) := by decide +kernel
theorem dd_X10_lieOnEachOther_123 : decode Y_X10_lieOnEachOther.2.1 123 = .ok (.iload 7, 2) := by decide +kernel
theorem dd_X10_lieOnEachOther_125 : decode Y_X10_lieOnEachOther.2.1 125 = .ok (.if_icmp .ge 7, 3) := by decide +kernel
theorem dd_X10_lieOnEachOther_128 : decode Y_X10_lieOnEachOther.2.1 128 = .ok (.iconst 1, 1) := by decide +kernel
theorem dd_X10_lieOnEachOther_129 : decode Y_X10_lieOnEachOther.2.1 129 = .ok (.goto 4, 3) := by decide +kernel
theorem dd_X10_lieOnEachOther_132 : decode Y_X10_lieOnEachOther.2.1 132 = .ok (.iconst 0, 1) := by decide +kernel
theorem dd_X10_lieOnEachOther_133 : decode Y_X10_lieOnEachOther.2.1 133 = .ok (.ireturn, 1) := by decide +kernel
def F_X10_lieOnEachOther (t : Nat) (a1 : Int32) (a2 : Int32) (a3 : Int32) (M : zM) : zO := zck (zin a1 8) (zlt (M (zgr t 1) (zix a1)) (fun v1 => zck (zin a2 8) (zlt (M (zgr t 1) (zix a2)) (fun v2 => zck (zin v1 8) (zck (zin v2 8) (zlt ((if (M (zgr (zgr t 0) 6) (zix v1)) < (M (zgr (zgr t 0) 6) (zix v2)) then M (zgr (zgr t 0) 6) (zix v2) else M (zgr (zgr t 0) 6) (zix v1)) + a3) (fun v3 => zck (zin v1 8) (zck (zin v1 8) (zck (zin v2 8) (zck (zin v2 8) (zlt ((if ((M (zgr (zgr t 0) 6) (zix v2)) + (M (zgr (zgr (zgr t 0) 4) 1) (zix v2))) < ((M (zgr (zgr t 0) 6) (zix v1)) + (M (zgr (zgr (zgr t 0) 4) 1) (zix v1))) then (M (zgr (zgr t 0) 6) (zix v2)) + (M (zgr (zgr (zgr t 0) 4) 1) (zix v2)) else (M (zgr (zgr t 0) 6) (zix v1)) + (M (zgr (zgr (zgr t 0) 4) 1) (zix v1))) - a3) (fun v4 => zck (zin v1 8) (zck (zin v2 8) (zjo (fun (w1 : Int32) (M2 : zM) => zck (zbo w1) (zI w1 M2)) (fun (k1 : Int32 → zM → zO) => zjo (fun  (M1 : zM) => k1 0 M1) (fun (k2 : zM → zO) => zit ((M (zgr (zgr t 0) 7) (zix v1)) = (M (zgr (zgr t 0) 7) (zix v2))) (zit (v4 ≤ v3) (k2 M) (k1 1 M)) (k2 M)))))))))))))))))
set_option maxHeartbeats 1000000 in
set_option maxRecDepth 20000 in
theorem ct_X10_lieOnEachOther (l : Launch) (hl : l.stackTraces = false) (G : zG) (t : Nat) (ht : zsh t = 10) (a1 : Int32) (a2 : Int32) (a3 : Int32) (M : zM) : zMt l G Y_X10_lieOnEachOther 8 [.ref (G.2.1 + t), .int a1, .int a2, .int a3] M (F_X10_lieOnEachOther t a1 a2 a3 M) := by
  refine zMt_of (by decide +kernel) (Nat.le_of_ble_eq_true rfl) ?_
  show zEv l G Y_X10_lieOnEachOther 8 0 0 [(0, .ref (G.2.1 + t)), (1, .int a1), (2, .int a2), (3, .int a3)] [] M (zck (zin a1 8) (zlt (M (zgr t 1) (zix a1)) (fun v1 => zck (zin a2 8) (zlt (M (zgr t 1) (zix a2)) (fun v2 => zck (zin v1 8) (zck (zin v2 8) (zlt ((if (M (zgr (zgr t 0) 6) (zix v1)) < (M (zgr (zgr t 0) 6) (zix v2)) then M (zgr (zgr t 0) 6) (zix v2) else M (zgr (zgr t 0) 6) (zix v1)) + a3) (fun v3 => zck (zin v1 8) (zck (zin v1 8) (zck (zin v2 8) (zck (zin v2 8) (zlt ((if ((M (zgr (zgr t 0) 6) (zix v2)) + (M (zgr (zgr (zgr t 0) 4) 1) (zix v2))) < ((M (zgr (zgr t 0) 6) (zix v1)) + (M (zgr (zgr (zgr t 0) 4) 1) (zix v1))) then (M (zgr (zgr t 0) 6) (zix v2)) + (M (zgr (zgr (zgr t 0) 4) 1) (zix v2)) else (M (zgr (zgr t 0) 6) (zix v1)) + (M (zgr (zgr (zgr t 0) 4) 1) (zix v1))) - a3) (fun v4 => zck (zin v1 8) (zck (zin v2 8) (zjo (fun (w1 : Int32) (M2 : zM) => zck (zbo w1) (zI w1 M2)) (fun (k1 : Int32 → zM → zO) => zjo (fun  (M1 : zM) => k1 0 M1) (fun (k2 : zM → zO) => zit ((M (zgr (zgr t 0) 7) (zix v1)) = (M (zgr (zgr t 0) 7) (zix v2))) (zit (v4 ≤ v3) (k2 M) (k1 1 M)) (k2 M))))))))))))))))))
  refine ev_aload_n dd_X10_lieOnEachOther_0 0 rfl ?_
  refine ev_getR gf_RX10_9 dd_X10_lieOnEachOther_1 ht (by decide) ?_
  refine ev_iload_n dd_X10_lieOnEachOther_4 1 rfl ?_
  refine ev_lv (lv' := [(0, .ref (G.2.1 + t)), (2, .int a2), (3, .int a3)]) [0, 2, 3] rfl ?_
  refine ev_iald dd_X10_lieOnEachOther_5 ((zg_10_1 ht).1) ((zg_10_1 ht).2) ?_
  refine ev_topi (fun v1 => ?_)
  refine ev_istore (i := 4) (lv' := [(0, .ref (G.2.1 + t)), (2, .int a2), (3, .int a3), (4, .int v1)]) [1, 2, 3, 0] dd_X10_lieOnEachOther_6 (by decide) rfl ?_
  refine ev_aload_n dd_X10_lieOnEachOther_8 0 rfl ?_
  refine ev_getR gf_RX10_9 dd_X10_lieOnEachOther_9 ht (by decide) ?_
  refine ev_iload_n dd_X10_lieOnEachOther_12 1 rfl ?_
  refine ev_lv (lv' := [(0, .ref (G.2.1 + t)), (3, .int a3), (4, .int v1)]) [0, 2, 3] rfl ?_
  refine ev_iald dd_X10_lieOnEachOther_13 ((zg_10_1 ht).1) ((zg_10_1 ht).2) ?_
  refine ev_topi (fun v2 => ?_)
  refine ev_istore (i := 5) (lv' := [(0, .ref (G.2.1 + t)), (3, .int a3), (4, .int v1), (5, .int v2)]) [1, 2, 3, 0] dd_X10_lieOnEachOther_14 (by decide) rfl ?_
  refine ev_aload_n dd_X10_lieOnEachOther_16 0 rfl ?_
  refine ev_getR gf_RX10_22 dd_X10_lieOnEachOther_17 ht (by decide) ?_
  refine ev_getR gf_RX10_91 dd_X10_lieOnEachOther_20 (zg_10_0 ht) (by decide) ?_
  refine ev_iload dd_X10_lieOnEachOther_23 2 rfl ?_
  refine ev_iald dd_X10_lieOnEachOther_25 ((zg_6_6 (zg_10_0 ht)).1) ((zg_6_6 (zg_10_0 ht)).2) ?_
  refine ev_aload_n dd_X10_lieOnEachOther_26 0 rfl ?_
  refine ev_getR gf_RX10_22 dd_X10_lieOnEachOther_27 ht (by decide) ?_
  refine ev_getR gf_RX10_91 dd_X10_lieOnEachOther_30 (zg_10_0 ht) (by decide) ?_
  refine ev_iload dd_X10_lieOnEachOther_33 3 rfl ?_
  refine ev_iald dd_X10_lieOnEachOther_35 ((zg_6_6 (zg_10_0 ht)).1) ((zg_6_6 (zg_10_0 ht)).2) ?_
  refine ev_mmax mw_RX10_47 dd_X10_lieOnEachOther_36 (Nat.le_of_ble_eq_true rfl) (Nat.le_of_ble_eq_true rfl) ?_
  refine ev_iload_n dd_X10_lieOnEachOther_39 1 rfl ?_
  refine ev_iadd dd_X10_lieOnEachOther_40 ?_
  refine ev_topi (fun v3 => ?_)
  refine ev_istore (i := 6) (lv' := [(0, .ref (G.2.1 + t)), (3, .int a3), (4, .int v1), (5, .int v2), (6, .int v3)]) [1, 2, 3, 4, 0] dd_X10_lieOnEachOther_41 (by decide) rfl ?_
  refine ev_aload_n dd_X10_lieOnEachOther_43 0 rfl ?_
  refine ev_getR gf_RX10_22 dd_X10_lieOnEachOther_44 ht (by decide) ?_
  refine ev_getR gf_RX10_91 dd_X10_lieOnEachOther_47 (zg_10_0 ht) (by decide) ?_
  refine ev_iload dd_X10_lieOnEachOther_50 2 rfl ?_
  refine ev_iald dd_X10_lieOnEachOther_52 ((zg_6_6 (zg_10_0 ht)).1) ((zg_6_6 (zg_10_0 ht)).2) ?_
  refine ev_aload_n dd_X10_lieOnEachOther_53 0 rfl ?_
  refine ev_getR gf_RX10_22 dd_X10_lieOnEachOther_54 ht (by decide) ?_
  refine ev_getR gf_RX10_59 dd_X10_lieOnEachOther_57 (zg_10_0 ht) (by decide) ?_
  refine ev_getR gf_RX10_63 dd_X10_lieOnEachOther_60 (zg_6_4 (zg_10_0 ht)) (by decide) ?_
  refine ev_iload dd_X10_lieOnEachOther_63 2 rfl ?_
  refine ev_iald dd_X10_lieOnEachOther_65 ((zg_9_1 (zg_6_4 (zg_10_0 ht))).1) ((zg_9_1 (zg_6_4 (zg_10_0 ht))).2) ?_
  refine ev_iadd dd_X10_lieOnEachOther_66 ?_
  refine ev_aload_n dd_X10_lieOnEachOther_67 0 rfl ?_
  refine ev_getR gf_RX10_22 dd_X10_lieOnEachOther_68 ht (by decide) ?_
  refine ev_getR gf_RX10_91 dd_X10_lieOnEachOther_71 (zg_10_0 ht) (by decide) ?_
  refine ev_iload dd_X10_lieOnEachOther_74 3 rfl ?_
  refine ev_iald dd_X10_lieOnEachOther_76 ((zg_6_6 (zg_10_0 ht)).1) ((zg_6_6 (zg_10_0 ht)).2) ?_
  refine ev_aload_n dd_X10_lieOnEachOther_77 0 rfl ?_
  refine ev_getR gf_RX10_22 dd_X10_lieOnEachOther_78 ht (by decide) ?_
  refine ev_getR gf_RX10_59 dd_X10_lieOnEachOther_81 (zg_10_0 ht) (by decide) ?_
  refine ev_getR gf_RX10_63 dd_X10_lieOnEachOther_84 (zg_6_4 (zg_10_0 ht)) (by decide) ?_
  refine ev_iload dd_X10_lieOnEachOther_87 3 rfl ?_
  refine ev_iald dd_X10_lieOnEachOther_89 ((zg_9_1 (zg_6_4 (zg_10_0 ht))).1) ((zg_9_1 (zg_6_4 (zg_10_0 ht))).2) ?_
  refine ev_iadd dd_X10_lieOnEachOther_90 ?_
  refine ev_mmin mw_RX10_94 dd_X10_lieOnEachOther_91 (Nat.le_of_ble_eq_true rfl) (Nat.le_of_ble_eq_true rfl) ?_
  refine ev_iload_n dd_X10_lieOnEachOther_94 1 rfl ?_
  refine ev_lv (lv' := [(0, .ref (G.2.1 + t)), (4, .int v1), (5, .int v2), (6, .int v3)]) [0, 2, 3, 4] rfl ?_
  refine ev_isub dd_X10_lieOnEachOther_95 ?_
  refine ev_topi (fun v4 => ?_)
  refine ev_istore (i := 7) (lv' := [(0, .ref (G.2.1 + t)), (4, .int v1), (5, .int v2), (6, .int v3), (7, .int v4)]) [1, 2, 3, 4, 0] dd_X10_lieOnEachOther_96 (by decide) rfl ?_
  refine ev_aload_n dd_X10_lieOnEachOther_98 0 rfl ?_
  refine ev_getR gf_RX10_22 dd_X10_lieOnEachOther_99 ht (by decide) ?_
  refine ev_getR gf_RX10_97 dd_X10_lieOnEachOther_102 (zg_10_0 ht) (by decide) ?_
  refine ev_iload dd_X10_lieOnEachOther_105 1 rfl ?_
  refine ev_lv (lv' := [(0, .ref (G.2.1 + t)), (5, .int v2), (6, .int v3), (7, .int v4)]) [0, 2, 3, 4] rfl ?_
  refine ev_iald dd_X10_lieOnEachOther_107 ((zg_6_7 (zg_10_0 ht)).1) ((zg_6_7 (zg_10_0 ht)).2) ?_
  refine ev_aload_n dd_X10_lieOnEachOther_108 0 rfl ?_
  refine ev_lv (lv' := [(5, .int v2), (6, .int v3), (7, .int v4)]) [1, 2, 3] rfl ?_
  refine ev_getR gf_RX10_22 dd_X10_lieOnEachOther_109 ht (by decide) ?_
  refine ev_getR gf_RX10_97 dd_X10_lieOnEachOther_112 (zg_10_0 ht) (by decide) ?_
  refine ev_iload dd_X10_lieOnEachOther_115 0 rfl ?_
  refine ev_lv (lv' := [(6, .int v3), (7, .int v4)]) [1, 2] rfl ?_
  refine ev_iald dd_X10_lieOnEachOther_117 ((zg_6_7 (zg_10_0 ht)).1) ((zg_6_7 (zg_10_0 ht)).2) ?_
  refine ev_jo (fun (k1 : Int32 → zM → zO) => ∀ (w1 : Int32) (M2 : zM), zEv l G Y_X10_lieOnEachOther 8 0 133 [] [.int w1] M2 (k1 w1 M2)) ?_ (fun k1 hk1 => ?_)
  · intro w1 M2
    exact ev_zret dd_X10_lieOnEachOther_133 rfl (Nat.le_of_ble_eq_true rfl) rfl
  · refine ev_jo (fun (k2 : zM → zO) => ∀  (M1 : zM), zEv l G Y_X10_lieOnEachOther 8 0 132 [] [] M1 (k2 M1)) ?_ (fun k2 hk2 => ?_)
    · intro M1
      refine ev_iconst (v := 0) dd_X10_lieOnEachOther_132 (by decide) ?_
      exact hk1 _ _
    · refine ev_icmp_ne 132 dd_X10_lieOnEachOther_118 (by decide) ?_ ?_
      · refine ev_lv (lv' := []) [] rfl ?_
        exact hk2 _
      · refine ev_iload dd_X10_lieOnEachOther_121 0 rfl ?_
        refine ev_lv (lv' := [(7, .int v4)]) [1] rfl ?_
        refine ev_iload dd_X10_lieOnEachOther_123 0 rfl ?_
        refine ev_lv (lv' := []) [] rfl ?_
        refine ev_icmp_ge 132 dd_X10_lieOnEachOther_125 (by decide) ?_ ?_
        · exact hk2 _
        · refine ev_iconst (v := 1) dd_X10_lieOnEachOther_128 (by decide) ?_
          refine ev_goto 133 dd_X10_lieOnEachOther_129 (by decide) ?_
          exact hk1 _ _
/-! X10_owedTo -/
theorem dd_X10_owedTo_0 : decode Y_X10_owedTo.2.1 0 = .ok (.iconst 0, 1) := by decide +kernel
theorem dd_X10_owedTo_1 : decode Y_X10_owedTo.2.1 1 = .ok (.istore_n 2, 1) := by decide +kernel
theorem dd_X10_owedTo_2 : decode Y_X10_owedTo.2.1 2 = .ok (.iconst 0, 1) := by decide +kernel
theorem dd_X10_owedTo_3 : decode Y_X10_owedTo.2.1 3 = .ok (.istore_n 3, 1) := by decide +kernel
theorem dd_X10_owedTo_4 : decode Y_X10_owedTo.2.1 4 = .ok (.iload_n 3, 1) := by decide +kernel
theorem dd_X10_owedTo_5 : decode Y_X10_owedTo.2.1 5 = .ok (.aload_n 0, 1) := by decide +kernel
theorem dd_X10_owedTo_6 : decode Y_X10_owedTo.2.1 6 = .ok (.getfield 22, 3) := by decide +kernel
theorem dd_X10_owedTo_9 : decode Y_X10_owedTo.2.1 9 = .ok (.getfield 38, 3) := by decide +kernel
theorem dd_X10_owedTo_12 : decode Y_X10_owedTo.2.1 12 = .ok (.if_icmp .ge 22, 3) := by decide +kernel
theorem dd_X10_owedTo_15 : decode Y_X10_owedTo.2.1 15 = .ok (.iload_n 2, 1) := by decide +kernel
theorem dd_X10_owedTo_16 : decode Y_X10_owedTo.2.1 16 = .ok (.iconst 0, 1) := by decide +kernel
theorem dd_X10_owedTo_17 : decode Y_X10_owedTo.2.1 17 = .ok (.aload_n 0, 1) := by decide +kernel
theorem dd_X10_owedTo_18 : decode Y_X10_owedTo.2.1 18 = .ok (.iload_n 3, 1) := by decide +kernel
theorem dd_X10_owedTo_19 : decode Y_X10_owedTo.2.1 19 = .ok (.iload_n 1, 1) := by decide +kernel
theorem dd_X10_owedTo_20 : decode Y_X10_owedTo.2.1 20 = .ok (.invokevirtual 43, 3) := by decide +kernel
theorem dd_X10_owedTo_23 : decode Y_X10_owedTo.2.1 23 = .ok (.invokestatic 47, 3) := by decide +kernel
theorem dd_X10_owedTo_26 : decode Y_X10_owedTo.2.1 26 = .ok (.iadd, 1) := by decide +kernel
theorem dd_X10_owedTo_27 : decode Y_X10_owedTo.2.1 27 = .ok (.istore_n 2, 1) := by decide +kernel
theorem dd_X10_owedTo_28 : decode Y_X10_owedTo.2.1 28 = .ok (.iinc 3 1, 3) := by decide +kernel
theorem dd_X10_owedTo_31 : decode Y_X10_owedTo.2.1 31 = .ok (.goto (-27), 3) := by decide +kernel
theorem dd_X10_owedTo_34 : decode Y_X10_owedTo.2.1 34 = .ok (.iload_n 2, 1) := by decide +kernel
theorem dd_X10_owedTo_35 : decode Y_X10_owedTo.2.1 35 = .ok (.ireturn, 1) := by decide +kernel
def F_X10_owedTo_L4 (x0 : Nat) (x1 : Int32) (K34 : Int32 → zM → zO) : Nat → Int32 → Int32 → zM → zO
  | 0, _, _, _ => none
  | n + 1, x2, x3, M => zit ((M (zgr x0 0) 0) ≤ x3) (K34 x2 M) (zbI (F_X10_owes x0 x3 x1 M) (fun r1 M1 => zlt (x2 + (if (0 : Int32) < r1 then r1 else 0)) (fun v1 => F_X10_owedTo_L4 x0 x1 K34 n v1 (x3 + 1) M1)))
def F_X10_owedTo (t : Nat) (a1 : Int32) (M : zM) : zO := F_X10_owedTo_L4 t a1 (fun (y1 : Int32) (M2 : zM) => zI y1 M2) zN 0 0 M
set_option maxHeartbeats 1000000 in
set_option maxRecDepth 20000 in
theorem ct_X10_owedTo_L4 (l : Launch) (hl : l.stackTraces = false) (G : zG) (x0 : Nat) (hx0 : zsh x0 = 10) (x1 : Int32) (K34 : Int32 → zM → zO) (hK34 : ∀ (x2 : Int32) (M : zM), zEv l G Y_X10_owedTo 8 0 34 [(2, .int x2)] [] M (K34 x2 M)) : ∀ (n : Nat) (x2 : Int32) (x3 : Int32) (M : zM), zEv l G Y_X10_owedTo 8 0 4 [(0, .ref (G.2.1 + x0)), (1, .int x1), (2, .int x2), (3, .int x3)] [] M (F_X10_owedTo_L4 x0 x1 K34 n x2 x3 M) := by
  intro n
  induction n with
  | zero => intro x2 x3 M; exact ev_none
  | succ n ih =>
    intro x2 x3 M
    show zEv l G Y_X10_owedTo 8 0 4 [(0, .ref (G.2.1 + x0)), (1, .int x1), (2, .int x2), (3, .int x3)] [] M (zit ((M (zgr x0 0) 0) ≤ x3) (K34 x2 M) (zbI (F_X10_owes x0 x3 x1 M) (fun r1 M1 => zlt (x2 + (if (0 : Int32) < r1 then r1 else 0)) (fun v1 => F_X10_owedTo_L4 x0 x1 K34 n v1 (x3 + 1) M1))))
    refine ev_iload_n dd_X10_owedTo_4 3 rfl ?_
    refine ev_aload_n dd_X10_owedTo_5 0 rfl ?_
    refine ev_getR gf_RX10_22 dd_X10_owedTo_6 hx0 (by decide) ?_
    refine ev_getI gf_RX10_38 dd_X10_owedTo_9 (zg_10_0 hx0) (by decide) ?_
    refine ev_icmp_ge 34 dd_X10_owedTo_12 (by decide) ?_ ?_
    · refine ev_lv (lv' := [(2, .int x2)]) [2] rfl ?_
      exact hK34 _ _
    · refine ev_iload_n dd_X10_owedTo_15 2 rfl ?_
      refine ev_lv (lv' := [(0, .ref (G.2.1 + x0)), (1, .int x1), (3, .int x3)]) [0, 1, 3] rfl ?_
      refine ev_iconst (v := 0) dd_X10_owedTo_16 (by decide) ?_
      refine ev_aload_n dd_X10_owedTo_17 0 rfl ?_
      refine ev_iload_n dd_X10_owedTo_18 2 rfl ?_
      refine ev_iload_n dd_X10_owedTo_19 1 rfl ?_
      refine ev_callVI (As := [.int x3, .int x1]) cl_RX10_43 (ct_X10_owes l hl G x0 hx0 x3 x1 M) dd_X10_owedTo_20 hx0 (by decide) (Nat.le_of_ble_eq_true rfl) (Nat.le_of_ble_eq_true rfl) rfl rfl (fun r1 M1 => ?_)
      refine ev_mmax mw_RX10_47 dd_X10_owedTo_23 (Nat.le_of_ble_eq_true rfl) (Nat.le_of_ble_eq_true rfl) ?_
      refine ev_iadd dd_X10_owedTo_26 ?_
      refine ev_topi (fun v1 => ?_)
      refine ev_istore_n (i := 2) (lv' := [(0, .ref (G.2.1 + x0)), (1, .int x1), (2, .int v1), (3, .int x3)]) [1, 2, 0, 3] dd_X10_owedTo_27 rfl (by decide) rfl ?_
      refine ev_iinc (j := 3) (v := 1) (lv' := [(0, .ref (G.2.1 + x0)), (1, .int x1), (2, .int v1), (3, .int (x3 + 1))]) [1, 2, 3, 0] dd_X10_owedTo_28 rfl (by decide) (by decide) rfl ?_
      refine ev_goto 4 dd_X10_owedTo_31 (by decide) ?_
      exact ih _ _ _
set_option maxHeartbeats 1000000 in
set_option maxRecDepth 20000 in
theorem ct_X10_owedTo (l : Launch) (hl : l.stackTraces = false) (G : zG) (t : Nat) (ht : zsh t = 10) (a1 : Int32) (M : zM) : zMt l G Y_X10_owedTo 8 [.ref (G.2.1 + t), .int a1] M (F_X10_owedTo t a1 M) := by
  refine zMt_of (by decide +kernel) (Nat.le_of_ble_eq_true rfl) ?_
  show zEv l G Y_X10_owedTo 8 0 0 [(0, .ref (G.2.1 + t)), (1, .int a1)] [] M (F_X10_owedTo_L4 t a1 (fun (y1 : Int32) (M2 : zM) => zI y1 M2) zN 0 0 M)
  refine ev_iconst (v := 0) dd_X10_owedTo_0 (by decide) ?_
  refine ev_istore_n (i := 2) (lv' := [(0, .ref (G.2.1 + t)), (1, .int a1), (2, .int 0)]) [1, 2, 0] dd_X10_owedTo_1 rfl (by decide) rfl ?_
  refine ev_iconst (v := 0) dd_X10_owedTo_2 (by decide) ?_
  refine ev_istore_n (i := 3) (lv' := [(0, .ref (G.2.1 + t)), (1, .int a1), (2, .int 0), (3, .int 0)]) [1, 2, 3, 0] dd_X10_owedTo_3 rfl (by decide) rfl ?_
  refine ct_X10_owedTo_L4 l hl G t ht a1 _ (fun y1 M2 => ?_) zN _ _ _
  refine ev_iload_n dd_X10_owedTo_34 0 rfl ?_
  refine ev_lv (lv' := []) [] rfl ?_
  exact ev_iret dd_X10_owedTo_35 rfl (Nat.le_of_ble_eq_true rfl) rfl
/-! X10_passYear -/
theorem dd_X10_passYear_0 : decode Y_X10_passYear.2.1 0 = .ok (.iconst 0, 1) := by decide +kernel
theorem dd_X10_passYear_1 : decode Y_X10_passYear.2.1 1 = .ok (.istore_n 1, 1) := by decide +kernel
theorem dd_X10_passYear_2 : decode Y_X10_passYear.2.1 2 = .ok (.iconst 0, 1) := by decide +kernel
theorem dd_X10_passYear_3 : decode Y_X10_passYear.2.1 3 = .ok (.istore_n 2, 1) := by decide +kernel
theorem dd_X10_passYear_4 : decode Y_X10_passYear.2.1 4 = .ok (.iload_n 2, 1) := by decide +kernel
theorem dd_X10_passYear_5 : decode Y_X10_passYear.2.1 5 = .ok (.aload_n 0, 1) := by decide +kernel
theorem dd_X10_passYear_6 : decode Y_X10_passYear.2.1 6 = .ok (.getfield 22, 3) := by decide +kernel
theorem dd_X10_passYear_9 : decode Y_X10_passYear.2.1 9 = .ok (.getfield 72, 3) := by decide +kernel
theorem dd_X10_passYear_12 : decode Y_X10_passYear.2.1 12 = .ok (.if_icmp .ge 70, 3) := by decide +kernel
theorem dd_X10_passYear_15 : decode Y_X10_passYear.2.1 15 = .ok (.aload_n 0, 1) := by decide +kernel
theorem dd_X10_passYear_16 : decode Y_X10_passYear.2.1 16 = .ok (.getfield 22, 3) := by decide +kernel
theorem dd_X10_passYear_19 : decode Y_X10_passYear.2.1 19 = .ok (.getfield 75, 3) := by decide +kernel
theorem dd_X10_passYear_22 : decode Y_X10_passYear.2.1 22 = .ok (.iload_n 2, 1) := by decide +kernel
theorem dd_X10_passYear_23 : decode Y_X10_passYear.2.1 23 = .ok (.iaload, 1) := by decide +kernel
theorem dd_X10_passYear_24 : decode Y_X10_passYear.2.1 24 = .ok (.istore_n 3, 1) := by decide +kernel
theorem dd_X10_passYear_25 : decode Y_X10_passYear.2.1 25 = .ok (.aload_n 0, 1) := by decide +kernel
theorem dd_X10_passYear_26 : decode Y_X10_passYear.2.1 26 = .ok (.getfield 22, 3) := by decide +kernel
theorem dd_X10_passYear_29 : decode Y_X10_passYear.2.1 29 = .ok (.getfield 78, 3) := by decide +kernel
theorem dd_X10_passYear_32 : decode Y_X10_passYear.2.1 32 = .ok (.iload_n 2, 1) := by decide +kernel
theorem dd_X10_passYear_33 : decode Y_X10_passYear.2.1 33 = .ok (.iaload, 1) := by decide +kernel
theorem dd_X10_passYear_34 : decode Y_X10_passYear.2.1 34 = .ok (.istore 4, 2) := by decide +kernel
theorem dd_X10_passYear_36 : decode Y_X10_passYear.2.1 36 = .ok (.aload_n 0, 1) := by decide +kernel
theorem dd_X10_passYear_37 : decode Y_X10_passYear.2.1 37 = .ok (.getfield 22, 3) := by decide +kernel
theorem dd_X10_passYear_40 : decode Y_X10_passYear.2.1 40 = .ok (.getfield 81, 3) := by decide +kernel
theorem dd_X10_passYear_43 : decode Y_X10_passYear.2.1 43 = .ok (.iload_n 2, 1) := by decide +kernel
theorem dd_X10_passYear_44 : decode Y_X10_passYear.2.1 44 = .ok (.iaload, 1) := by decide +kernel
theorem dd_X10_passYear_45 : decode Y_X10_passYear.2.1 45 = .ok (.aload_n 0, 1) := by decide +kernel
theorem dd_X10_passYear_46 : decode Y_X10_passYear.2.1 46 = .ok (.getfield 18, 3) := by decide +kernel
theorem dd_X10_passYear_49 : decode Y_X10_passYear.2.1 49 = .ok (.if_icmp .ne 27, 3) := by decide +kernel
theorem dd_X10_passYear_52 : decode Y_X10_passYear.2.1 52 = .ok (.aload_n 0, 1) := by decide +kernel
theorem dd_X10_passYear_53 : decode Y_X10_passYear.2.1 53 = .ok (.iload_n 3, 1) := by decide +kernel
theorem dd_X10_passYear_54 : decode Y_X10_passYear.2.1 54 = .ok (.iload 4, 2) := by decide +kernel
theorem dd_X10_passYear_56 : decode Y_X10_passYear.2.1 56 = .ok (.invokevirtual 84, 3) := by decide +kernel
theorem dd_X10_passYear_59 : decode Y_X10_passYear.2.1 59 = .ok (.ifCond .eq 17, 3) := by decide +kernel
theorem dd_X10_passYear_62 : decode Y_X10_passYear.2.1 62 = .ok (.aload_n 0, 1) := by decide +kernel
theorem dd_X10_passYear_63 : decode Y_X10_passYear.2.1 63 = .ok (.iload_n 3, 1) := by decide +kernel
theorem dd_X10_passYear_64 : decode Y_X10_passYear.2.1 64 = .ok (.iload 4, 2) := by decide +kernel
theorem dd_X10_passYear_66 : decode Y_X10_passYear.2.1 66 = .ok (.invokevirtual 88, 3) := by decide +kernel
theorem dd_X10_passYear_69 : decode Y_X10_passYear.2.1 69 = .ok (.pop, 1) := by decide +kernel
theorem dd_X10_passYear_70 : decode Y_X10_passYear.2.1 70 = .ok (.iload_n 1, 1) := by decide +kernel
theorem dd_X10_passYear_71 : decode Y_X10_passYear.2.1 71 = .ok (.iconst 1, 1) := by decide +kernel
theorem dd_X10_passYear_72 : decode Y_X10_passYear.2.1 72 = .ok (.iload_n 2, 1) := by decide +kernel
theorem dd_X10_passYear_73 : decode Y_X10_passYear.2.1 73 = .ok (.ishl, 1) := by decide +kernel
theorem dd_X10_passYear_74 : decode Y_X10_passYear.2.1 74 = .ok (.ior, 1) := by decide +kernel
theorem dd_X10_passYear_75 : decode Y_X10_passYear.2.1 75 = .ok (.istore_n 1, 1) := by decide +kernel
theorem dd_X10_passYear_76 : decode Y_X10_passYear.2.1 76 = .ok (.iinc 2 1, 3) := by decide +kernel
theorem dd_X10_passYear_79 : decode Y_X10_passYear.2.1 79 = .ok (.goto (-75), 3) := by decide +kernel
theorem dd_X10_passYear_82 : decode Y_X10_passYear.2.1 82 = .ok (.aload_n 0, 1) := by decide +kernel
theorem dd_X10_passYear_83 : decode Y_X10_passYear.2.1 83 = .ok (.dup, 1) := by decide +kernel
theorem dd_X10_passYear_84 : decode Y_X10_passYear.2.1 84 = .ok (.getfield 18, 3) := by decide +kernel
theorem dd_X10_passYear_87 : decode Y_X10_passYear.2.1 87 = .ok (.iconst 1, 1) := by decide +kernel
theorem dd_X10_passYear_88 : decode Y_X10_passYear.2.1 88 = .ok (.iadd, 1) := by decide +kernel
theorem dd_X10_passYear_89 : decode Y_X10_passYear.2.1 89 = .ok (.putfield 18, 3) := by decide +kernel
theorem dd_X10_passYear_92 : decode Y_X10_passYear.2.1 92 = .ok (.iload_n 1, 1) := by decide +kernel
theorem dd_X10_passYear_93 : decode Y_X10_passYear.2.1 93 = .ok (.ireturn, 1) := by decide +kernel
def F_X10_passYear_L4 (x0 : Nat) (K82 : Int32 → zM → zO) : Nat → Int32 → Int32 → zM → zO
  | 0, _, _, _ => none
  | n + 1, x1, x2, M => zit ((M (zgr x0 0) 1) ≤ x2) (K82 x1 M) (zck (zin x2 12) (zlt (M (zgr (zgr x0 0) 12) (zix x2)) (fun v1 => zck (zin x2 12) (zlt (M (zgr (zgr x0 0) 13) (zix x2)) (fun v2 => zck (zin x2 12) (zjo (fun (w1 : Int32) (M3 : zM) => F_X10_passYear_L4 x0 K82 n w1 (x2 + 1) M3) (fun (k1 : Int32 → zM → zO) => zit ((M (zgr (zgr x0 0) 11) (zix x2)) = (M x0 3)) (zbI (F_X10_lets x0 v1 v2 M) (fun r1 M1 => zit (r1 = 0) (k1 x1 M1) (zbI (F_X10_exchange x0 v1 v2 M1) (fun r2 M2 => zlt (x1 ||| ((1 : Int32) <<< (x2 &&& 31))) (fun v3 => k1 v3 M2))))) (k1 x1 M))))))))
def F_X10_passYear (t : Nat) (M : zM) : zO := F_X10_passYear_L4 t (fun (y1 : Int32) (M4 : zM) => zst (zup M4 t 3 ((M4 t 3) + 1)) (fun M5 => zI y1 M5)) zN 0 0 M
set_option maxHeartbeats 1000000 in
set_option maxRecDepth 20000 in
theorem ct_X10_passYear_L4 (l : Launch) (hl : l.stackTraces = false) (G : zG) (x0 : Nat) (hx0 : zsh x0 = 10) (K82 : Int32 → zM → zO) (hK82 : ∀ (x1 : Int32) (M : zM), zEv l G Y_X10_passYear 12 0 82 [(0, .ref (G.2.1 + x0)), (1, .int x1)] [] M (K82 x1 M)) : ∀ (n : Nat) (x1 : Int32) (x2 : Int32) (M : zM), zEv l G Y_X10_passYear 12 0 4 [(0, .ref (G.2.1 + x0)), (1, .int x1), (2, .int x2)] [] M (F_X10_passYear_L4 x0 K82 n x1 x2 M) := by
  intro n
  induction n with
  | zero => intro x1 x2 M; exact ev_none
  | succ n ih =>
    intro x1 x2 M
    show zEv l G Y_X10_passYear 12 0 4 [(0, .ref (G.2.1 + x0)), (1, .int x1), (2, .int x2)] [] M (zit ((M (zgr x0 0) 1) ≤ x2) (K82 x1 M) (zck (zin x2 12) (zlt (M (zgr (zgr x0 0) 12) (zix x2)) (fun v1 => zck (zin x2 12) (zlt (M (zgr (zgr x0 0) 13) (zix x2)) (fun v2 => zck (zin x2 12) (zjo (fun (w1 : Int32) (M3 : zM) => F_X10_passYear_L4 x0 K82 n w1 (x2 + 1) M3) (fun (k1 : Int32 → zM → zO) => zit ((M (zgr (zgr x0 0) 11) (zix x2)) = (M x0 3)) (zbI (F_X10_lets x0 v1 v2 M) (fun r1 M1 => zit (r1 = 0) (k1 x1 M1) (zbI (F_X10_exchange x0 v1 v2 M1) (fun r2 M2 => zlt (x1 ||| ((1 : Int32) <<< (x2 &&& 31))) (fun v3 => k1 v3 M2))))) (k1 x1 M)))))))))
    refine ev_iload_n dd_X10_passYear_4 2 rfl ?_
    refine ev_aload_n dd_X10_passYear_5 0 rfl ?_
    refine ev_getR gf_RX10_22 dd_X10_passYear_6 hx0 (by decide) ?_
    refine ev_getI gf_RX10_72 dd_X10_passYear_9 (zg_10_0 hx0) (by decide) ?_
    refine ev_icmp_ge 82 dd_X10_passYear_12 (by decide) ?_ ?_
    · refine ev_lv (lv' := [(0, .ref (G.2.1 + x0)), (1, .int x1)]) [0, 1] rfl ?_
      exact hK82 _ _
    · refine ev_aload_n dd_X10_passYear_15 0 rfl ?_
      refine ev_getR gf_RX10_22 dd_X10_passYear_16 hx0 (by decide) ?_
      refine ev_getR gf_RX10_75 dd_X10_passYear_19 (zg_10_0 hx0) (by decide) ?_
      refine ev_iload_n dd_X10_passYear_22 2 rfl ?_
      refine ev_iald dd_X10_passYear_23 ((zg_6_12 (zg_10_0 hx0)).1) ((zg_6_12 (zg_10_0 hx0)).2) ?_
      refine ev_topi (fun v1 => ?_)
      refine ev_istore_n (i := 3) (lv' := [(0, .ref (G.2.1 + x0)), (1, .int x1), (2, .int x2), (3, .int v1)]) [1, 2, 3, 0] dd_X10_passYear_24 rfl (by decide) rfl ?_
      refine ev_aload_n dd_X10_passYear_25 0 rfl ?_
      refine ev_getR gf_RX10_22 dd_X10_passYear_26 hx0 (by decide) ?_
      refine ev_getR gf_RX10_78 dd_X10_passYear_29 (zg_10_0 hx0) (by decide) ?_
      refine ev_iload_n dd_X10_passYear_32 2 rfl ?_
      refine ev_iald dd_X10_passYear_33 ((zg_6_13 (zg_10_0 hx0)).1) ((zg_6_13 (zg_10_0 hx0)).2) ?_
      refine ev_topi (fun v2 => ?_)
      refine ev_istore (i := 4) (lv' := [(0, .ref (G.2.1 + x0)), (1, .int x1), (2, .int x2), (3, .int v1), (4, .int v2)]) [1, 2, 3, 4, 0] dd_X10_passYear_34 (by decide) rfl ?_
      refine ev_aload_n dd_X10_passYear_36 0 rfl ?_
      refine ev_getR gf_RX10_22 dd_X10_passYear_37 hx0 (by decide) ?_
      refine ev_getR gf_RX10_81 dd_X10_passYear_40 (zg_10_0 hx0) (by decide) ?_
      refine ev_iload_n dd_X10_passYear_43 2 rfl ?_
      refine ev_iald dd_X10_passYear_44 ((zg_6_11 (zg_10_0 hx0)).1) ((zg_6_11 (zg_10_0 hx0)).2) ?_
      refine ev_aload_n dd_X10_passYear_45 0 rfl ?_
      refine ev_getI gf_RX10_18 dd_X10_passYear_46 hx0 (by decide) ?_
      refine ev_jo (fun (k1 : Int32 → zM → zO) => ∀ (w1 : Int32) (M3 : zM), zEv l G Y_X10_passYear 12 0 76 [(0, .ref (G.2.1 + x0)), (1, .int w1), (2, .int x2)] [] M3 (k1 w1 M3)) ?_ (fun k1 hk1 => ?_)
      · intro w1 M3
        refine ev_iinc (j := 2) (v := 1) (lv' := [(0, .ref (G.2.1 + x0)), (1, .int w1), (2, .int (x2 + 1))]) [1, 2, 0] dd_X10_passYear_76 rfl (by decide) (by decide) rfl ?_
        refine ev_goto 4 dd_X10_passYear_79 (by decide) ?_
        exact ih _ _ _
      · refine ev_icmp_ne 76 dd_X10_passYear_49 (by decide) ?_ ?_
        · refine ev_lv (lv' := [(0, .ref (G.2.1 + x0)), (1, .int x1), (2, .int x2)]) [0, 1, 2] rfl ?_
          exact hk1 _ _
        · refine ev_aload_n dd_X10_passYear_52 0 rfl ?_
          refine ev_iload_n dd_X10_passYear_53 3 rfl ?_
          refine ev_iload dd_X10_passYear_54 4 rfl ?_
          refine ev_callVI (As := [.int v1, .int v2]) cl_RX10_84 (ct_X10_lets l hl G x0 hx0 v1 v2 M) dd_X10_passYear_56 hx0 (by decide) (Nat.le_of_ble_eq_true rfl) (Nat.le_of_ble_eq_true rfl) rfl rfl (fun r1 M1 => ?_)
          refine ev_if_eq 76 dd_X10_passYear_59 (by decide) ?_ ?_
          · refine ev_lv (lv' := [(0, .ref (G.2.1 + x0)), (1, .int x1), (2, .int x2)]) [0, 1, 2] rfl ?_
            exact hk1 _ _
          · refine ev_aload_n dd_X10_passYear_62 0 rfl ?_
            refine ev_iload_n dd_X10_passYear_63 3 rfl ?_
            refine ev_lv (lv' := [(0, .ref (G.2.1 + x0)), (1, .int x1), (2, .int x2), (4, .int v2)]) [0, 1, 2, 4] rfl ?_
            refine ev_iload dd_X10_passYear_64 3 rfl ?_
            refine ev_lv (lv' := [(0, .ref (G.2.1 + x0)), (1, .int x1), (2, .int x2)]) [0, 1, 2] rfl ?_
            refine ev_callVI (As := [.int v1, .int v2]) cl_RX10_88 (ct_X10_exchange l hl G x0 hx0 v1 v2 M1) dd_X10_passYear_66 hx0 (by decide) (Nat.le_of_ble_eq_true rfl) (Nat.le_of_ble_eq_true rfl) rfl rfl (fun r2 M2 => ?_)
            refine ev_pop dd_X10_passYear_69 rfl ?_
            refine ev_iload_n dd_X10_passYear_70 1 rfl ?_
            refine ev_lv (lv' := [(0, .ref (G.2.1 + x0)), (2, .int x2)]) [0, 2] rfl ?_
            refine ev_iconst (v := 1) dd_X10_passYear_71 (by decide) ?_
            refine ev_iload_n dd_X10_passYear_72 1 rfl ?_
            refine ev_ishl dd_X10_passYear_73 ?_
            refine ev_ior dd_X10_passYear_74 ?_
            refine ev_topi (fun v3 => ?_)
            refine ev_istore_n (i := 1) (lv' := [(0, .ref (G.2.1 + x0)), (1, .int v3), (2, .int x2)]) [1, 0, 2] dd_X10_passYear_75 rfl (by decide) rfl ?_
            exact hk1 _ _
set_option maxHeartbeats 1000000 in
set_option maxRecDepth 20000 in
theorem ct_X10_passYear (l : Launch) (hl : l.stackTraces = false) (G : zG) (t : Nat) (ht : zsh t = 10) (M : zM) : zMt l G Y_X10_passYear 12 [.ref (G.2.1 + t)] M (F_X10_passYear t M) := by
  refine zMt_of (by decide +kernel) (Nat.le_of_ble_eq_true rfl) ?_
  show zEv l G Y_X10_passYear 12 0 0 [(0, .ref (G.2.1 + t))] [] M (F_X10_passYear_L4 t (fun (y1 : Int32) (M4 : zM) => zst (zup M4 t 3 ((M4 t 3) + 1)) (fun M5 => zI y1 M5)) zN 0 0 M)
  refine ev_iconst (v := 0) dd_X10_passYear_0 (by decide) ?_
  refine ev_istore_n (i := 1) (lv' := [(0, .ref (G.2.1 + t)), (1, .int 0)]) [1, 0] dd_X10_passYear_1 rfl (by decide) rfl ?_
  refine ev_iconst (v := 0) dd_X10_passYear_2 (by decide) ?_
  refine ev_istore_n (i := 2) (lv' := [(0, .ref (G.2.1 + t)), (1, .int 0), (2, .int 0)]) [1, 2, 0] dd_X10_passYear_3 rfl (by decide) rfl ?_
  refine ct_X10_passYear_L4 l hl G t ht _ (fun y1 M4 => ?_) zN _ _ _
  refine ev_aload_n dd_X10_passYear_82 0 rfl ?_
  refine ev_lv (lv' := [(1, .int y1)]) [1] rfl ?_
  refine ev_dup dd_X10_passYear_83 rfl ?_
  refine ev_getI gf_RX10_18 dd_X10_passYear_84 ht (by decide) ?_
  refine ev_iconst (v := 1) dd_X10_passYear_87 (by decide) ?_
  refine ev_iadd dd_X10_passYear_88 ?_
  refine ev_putI gw_RX10_18 dd_X10_passYear_89 ht (by decide) ?_
  refine ev_st (fun M5 => ?_)
  refine ev_iload_n dd_X10_passYear_92 0 rfl ?_
  refine ev_lv (lv' := []) [] rfl ?_
  exact ev_iret dd_X10_passYear_93 rfl (Nat.le_of_ble_eq_true rfl) rfl
/-! X10_takeYearBack -/
theorem dd_X10_takeYearBack_0 : decode Y_X10_takeYearBack.2.1 0 = .ok (.aload_n 0, 1) := by decide +kernel
theorem dd_X10_takeYearBack_1 : decode Y_X10_takeYearBack.2.1 1 = .ok (.dup, 1) := by decide +kernel
theorem dd_X10_takeYearBack_2 : decode Y_X10_takeYearBack.2.1 2 = .ok (.getfield 18, 3) := by decide +kernel
theorem dd_X10_takeYearBack_5 : decode Y_X10_takeYearBack.2.1 5 = .ok (.iconst 1, 1) := by decide +kernel
theorem dd_X10_takeYearBack_6 : decode Y_X10_takeYearBack.2.1 6 = .ok (.isub, 1) := by decide +kernel
theorem dd_X10_takeYearBack_7 : decode Y_X10_takeYearBack.2.1 7 = .ok (.putfield 18, 3) := by decide +kernel
theorem dd_X10_takeYearBack_10 : decode Y_X10_takeYearBack.2.1 10 = .ok (.aload_n 0, 1) := by decide +kernel
theorem dd_X10_takeYearBack_11 : decode Y_X10_takeYearBack.2.1 11 = .ok (.getfield 22, 3) := by decide +kernel
theorem dd_X10_takeYearBack_14 : decode Y_X10_takeYearBack.2.1 14 = .ok (.getfield 72, 3) := by decide +kernel
theorem dd_X10_takeYearBack_17 : decode Y_X10_takeYearBack.2.1 17 = .ok (.iconst 1, 1) := by decide +kernel
theorem dd_X10_takeYearBack_18 : decode Y_X10_takeYearBack.2.1 18 = .ok (.isub, 1) := by decide +kernel
theorem dd_X10_takeYearBack_19 : decode Y_X10_takeYearBack.2.1 19 = .ok (.istore_n 2, 1) := by decide +kernel
theorem dd_X10_takeYearBack_20 : decode Y_X10_takeYearBack.2.1 20 = .ok (.iload_n 2, 1) := by decide +kernel
theorem dd_X10_takeYearBack_21 : decode Y_X10_takeYearBack.2.1 21 = .ok (.ifCond .lt 41, 3) := by decide +kernel
theorem dd_X10_takeYearBack_24 : decode Y_X10_takeYearBack.2.1 24 = .ok (.iload_n 1, 1) := by decide +kernel
theorem dd_X10_takeYearBack_25 : decode Y_X10_takeYearBack.2.1 25 = .ok (.iload_n 2, 1) := by decide +kernel
theorem dd_X10_takeYearBack_26 : decode Y_X10_takeYearBack.2.1 26 = .ok (.ishr, 1) := by decide +kernel
theorem dd_X10_takeYearBack_27 : decode Y_X10_takeYearBack.2.1 27 = .ok (.iconst 1, 1) := by decide +kernel
theorem dd_X10_takeYearBack_28 : decode Y_X10_takeYearBack.2.1 28 = .ok (.iand, 1) := by decide +kernel
theorem dd_X10_takeYearBack_29 : decode Y_X10_takeYearBack.2.1 29 = .ok (.iconst 1, 1) := by decide +kernel
theorem dd_X10_takeYearBack_30 : decode Y_X10_takeYearBack.2.1 30 = .ok (.if_icmp .ne 26, 3) := by decide +kernel
theorem dd_X10_takeYearBack_33 : decode Y_X10_takeYearBack.2.1 33 = .ok (.aload_n 0, 1) := by decide +kernel
theorem dd_X10_takeYearBack_34 : decode Y_X10_takeYearBack.2.1 34 = .ok (.aload_n 0, 1) := by decide +kernel
theorem dd_X10_takeYearBack_35 : decode Y_X10_takeYearBack.2.1 35 = .ok (.getfield 22, 3) := by decide +kernel
theorem dd_X10_takeYearBack_38 : decode Y_X10_takeYearBack.2.1 38 = .ok (.getfield 75, 3) := by decide +kernel
theorem dd_X10_takeYearBack_41 : decode Y_X10_takeYearBack.2.1 41 = .ok (.iload_n 2, 1) := by decide +kernel
theorem dd_X10_takeYearBack_42 : decode Y_X10_takeYearBack.2.1 42 = .ok (.iaload, 1) := by decide +kernel
theorem dd_X10_takeYearBack_43 : decode Y_X10_takeYearBack.2.1 43 = .ok (.aload_n 0, 1) := by decide +kernel
theorem dd_X10_takeYearBack_44 : decode Y_X10_takeYearBack.2.1 44 = .ok (.getfield 22, 3) := by decide +kernel
theorem dd_X10_takeYearBack_47 : decode Y_X10_takeYearBack.2.1 47 = .ok (.getfield 78, 3) := by decide +kernel
theorem dd_X10_takeYearBack_50 : decode Y_X10_takeYearBack.2.1 50 = .ok (.iload_n 2, 1) := by decide +kernel
theorem dd_X10_takeYearBack_51 : decode Y_X10_takeYearBack.2.1 51 = .ok (.iaload, 1) := by decide +kernel
theorem dd_X10_takeYearBack_52 : decode Y_X10_takeYearBack.2.1 52 = .ok (.invokevirtual 88, 3) := by decide +kernel
theorem dd_X10_takeYearBack_55 : decode Y_X10_takeYearBack.2.1 55 = .ok (.pop, 1) := by decide +kernel
theorem dd_X10_takeYearBack_56 : decode Y_X10_takeYearBack.2.1 56 = .ok (.iinc 2 (-1), 3) := by decide +kernel
theorem dd_X10_takeYearBack_59 : decode Y_X10_takeYearBack.2.1 59 = .ok (.goto (-39), 3) := by decide +kernel
theorem dd_X10_takeYearBack_62 : decode Y_X10_takeYearBack.2.1 62 = .ok (.return_, 1) := by decide +kernel
def F_X10_takeYearBack_L20 (x0 : Nat) (x1 : Int32) (K62 : zM → zO) : Nat → Int32 → zM → zO
  | 0, _, _ => none
  | n + 1, x2, M => zit (x2 < 0) (K62 M) (zjo (fun  (M3 : zM) => F_X10_takeYearBack_L20 x0 x1 K62 n (x2 + (-1)) M3) (fun (k1 : zM → zO) => zit (((x1 >>> (x2 &&& 31)) &&& 1) = 1) (zck (zin x2 12) (zck (zin x2 12) (zbI (F_X10_exchange x0 (M (zgr (zgr x0 0) 12) (zix x2)) (M (zgr (zgr x0 0) 13) (zix x2)) M) (fun r1 M2 => k1 M2)))) (k1 M)))
def F_X10_takeYearBack (t : Nat) (a1 : Int32) (M : zM) : zO := zst (zup M t 3 ((M t 3) - 1)) (fun M1 => zlt ((M1 (zgr t 0) 1) - 1) (fun v1 => F_X10_takeYearBack_L20 t a1 (fun  (M4 : zM) => zV M4) zN v1 M1))
set_option maxHeartbeats 1000000 in
set_option maxRecDepth 20000 in
theorem ct_X10_takeYearBack_L20 (l : Launch) (hl : l.stackTraces = false) (G : zG) (x0 : Nat) (hx0 : zsh x0 = 10) (x1 : Int32) (K62 : zM → zO) (hK62 : ∀  (M : zM), zEv l G Y_X10_takeYearBack 3 0 62 [] [] M (K62 M)) : ∀ (n : Nat) (x2 : Int32) (M : zM), zEv l G Y_X10_takeYearBack 3 0 20 [(0, .ref (G.2.1 + x0)), (1, .int x1), (2, .int x2)] [] M (F_X10_takeYearBack_L20 x0 x1 K62 n x2 M) := by
  intro n
  induction n with
  | zero => intro x2 M; exact ev_none
  | succ n ih =>
    intro x2 M
    show zEv l G Y_X10_takeYearBack 3 0 20 [(0, .ref (G.2.1 + x0)), (1, .int x1), (2, .int x2)] [] M (zit (x2 < 0) (K62 M) (zjo (fun  (M3 : zM) => F_X10_takeYearBack_L20 x0 x1 K62 n (x2 + (-1)) M3) (fun (k1 : zM → zO) => zit (((x1 >>> (x2 &&& 31)) &&& 1) = 1) (zck (zin x2 12) (zck (zin x2 12) (zbI (F_X10_exchange x0 (M (zgr (zgr x0 0) 12) (zix x2)) (M (zgr (zgr x0 0) 13) (zix x2)) M) (fun r1 M2 => k1 M2)))) (k1 M))))
    refine ev_iload_n dd_X10_takeYearBack_20 2 rfl ?_
    refine ev_if_lt 62 dd_X10_takeYearBack_21 (by decide) ?_ ?_
    · refine ev_lv (lv' := []) [] rfl ?_
      exact hK62 _
    · refine ev_iload_n dd_X10_takeYearBack_24 1 rfl ?_
      refine ev_iload_n dd_X10_takeYearBack_25 2 rfl ?_
      refine ev_ishr dd_X10_takeYearBack_26 ?_
      refine ev_iconst (v := 1) dd_X10_takeYearBack_27 (by decide) ?_
      refine ev_iand dd_X10_takeYearBack_28 ?_
      refine ev_iconst (v := 1) dd_X10_takeYearBack_29 (by decide) ?_
      refine ev_jo (fun (k1 : zM → zO) => ∀  (M3 : zM), zEv l G Y_X10_takeYearBack 3 0 56 [(0, .ref (G.2.1 + x0)), (1, .int x1), (2, .int x2)] [] M3 (k1 M3)) ?_ (fun k1 hk1 => ?_)
      · intro M3
        refine ev_iinc (j := 2) (v := (-1)) (lv' := [(0, .ref (G.2.1 + x0)), (1, .int x1), (2, .int (x2 + (-1)))]) [1, 2, 0] dd_X10_takeYearBack_56 rfl (by decide) (by decide) rfl ?_
        refine ev_goto 20 dd_X10_takeYearBack_59 (by decide) ?_
        exact ih _ _
      · refine ev_icmp_ne 56 dd_X10_takeYearBack_30 (by decide) ?_ ?_
        · exact hk1 _
        · refine ev_aload_n dd_X10_takeYearBack_33 0 rfl ?_
          refine ev_aload_n dd_X10_takeYearBack_34 0 rfl ?_
          refine ev_getR gf_RX10_22 dd_X10_takeYearBack_35 hx0 (by decide) ?_
          refine ev_getR gf_RX10_75 dd_X10_takeYearBack_38 (zg_10_0 hx0) (by decide) ?_
          refine ev_iload_n dd_X10_takeYearBack_41 2 rfl ?_
          refine ev_iald dd_X10_takeYearBack_42 ((zg_6_12 (zg_10_0 hx0)).1) ((zg_6_12 (zg_10_0 hx0)).2) ?_
          refine ev_aload_n dd_X10_takeYearBack_43 0 rfl ?_
          refine ev_getR gf_RX10_22 dd_X10_takeYearBack_44 hx0 (by decide) ?_
          refine ev_getR gf_RX10_78 dd_X10_takeYearBack_47 (zg_10_0 hx0) (by decide) ?_
          refine ev_iload_n dd_X10_takeYearBack_50 2 rfl ?_
          refine ev_iald dd_X10_takeYearBack_51 ((zg_6_13 (zg_10_0 hx0)).1) ((zg_6_13 (zg_10_0 hx0)).2) ?_
          refine ev_callVI (As := [.int (M (zgr (zgr x0 0) 12) (zix x2)), .int (M (zgr (zgr x0 0) 13) (zix x2))]) cl_RX10_88 (ct_X10_exchange l hl G x0 hx0 (M (zgr (zgr x0 0) 12) (zix x2)) (M (zgr (zgr x0 0) 13) (zix x2)) M) dd_X10_takeYearBack_52 hx0 (by decide) (Nat.le_of_ble_eq_true rfl) (Nat.le_of_ble_eq_true rfl) rfl rfl (fun r1 M2 => ?_)
          refine ev_pop dd_X10_takeYearBack_55 rfl ?_
          exact hk1 _
set_option maxHeartbeats 1000000 in
set_option maxRecDepth 20000 in
theorem ct_X10_takeYearBack (l : Launch) (hl : l.stackTraces = false) (G : zG) (t : Nat) (ht : zsh t = 10) (a1 : Int32) (M : zM) : zMt l G Y_X10_takeYearBack 3 [.ref (G.2.1 + t), .int a1] M (F_X10_takeYearBack t a1 M) := by
  refine zMt_of (by decide +kernel) (Nat.le_of_ble_eq_true rfl) ?_
  show zEv l G Y_X10_takeYearBack 3 0 0 [(0, .ref (G.2.1 + t)), (1, .int a1)] [] M (zst (zup M t 3 ((M t 3) - 1)) (fun M1 => zlt ((M1 (zgr t 0) 1) - 1) (fun v1 => F_X10_takeYearBack_L20 t a1 (fun  (M4 : zM) => zV M4) zN v1 M1)))
  refine ev_aload_n dd_X10_takeYearBack_0 0 rfl ?_
  refine ev_dup dd_X10_takeYearBack_1 rfl ?_
  refine ev_getI gf_RX10_18 dd_X10_takeYearBack_2 ht (by decide) ?_
  refine ev_iconst (v := 1) dd_X10_takeYearBack_5 (by decide) ?_
  refine ev_isub dd_X10_takeYearBack_6 ?_
  refine ev_putI gw_RX10_18 dd_X10_takeYearBack_7 ht (by decide) ?_
  refine ev_st (fun M1 => ?_)
  refine ev_aload_n dd_X10_takeYearBack_10 0 rfl ?_
  refine ev_getR gf_RX10_22 dd_X10_takeYearBack_11 ht (by decide) ?_
  refine ev_getI gf_RX10_72 dd_X10_takeYearBack_14 (zg_10_0 ht) (by decide) ?_
  refine ev_iconst (v := 1) dd_X10_takeYearBack_17 (by decide) ?_
  refine ev_isub dd_X10_takeYearBack_18 ?_
  refine ev_topi (fun v1 => ?_)
  refine ev_istore_n (i := 2) (lv' := [(0, .ref (G.2.1 + t)), (1, .int a1), (2, .int v1)]) [1, 2, 0] dd_X10_takeYearBack_19 rfl (by decide) rfl ?_
  refine ct_X10_takeYearBack_L20 l hl G t ht a1 _ (fun M4 => ?_) zN _ _
  exact ev_vret dd_X10_takeYearBack_62 rfl (Nat.le_of_ble_eq_true rfl) rfl
/-! X11_needIsle -/
theorem dd_X11_needIsle_0 : decode Y_X11_needIsle.2.1 0 = .ok (.iload_n 1, 1) := by decide +kernel
theorem dd_X11_needIsle_1 : decode Y_X11_needIsle.2.1 1 = .ok (.ifCond .lt 14, 3) := by decide +kernel
theorem dd_X11_needIsle_4 : decode Y_X11_needIsle.2.1 4 = .ok (.iload_n 1, 1) := by decide +kernel
theorem dd_X11_needIsle_5 : decode Y_X11_needIsle.2.1 5 = .ok (.aload_n 0, 1) := by decide +kernel
theorem dd_X11_needIsle_6 : decode Y_X11_needIsle.2.1 6 = .ok (.getfield 19, 3) := by decide +kernel
theorem dd_X11_needIsle_9 : decode Y_X11_needIsle.2.1 9 = .ok (.getfield 142, 3) := by decide +kernel
theorem dd_X11_needIsle_12 : decode Y_X11_needIsle.2.1 12 = .ok (.if_icmp .lt 14, 3) := by decide +kernel
theorem dd_X11_needIsle_15 : decode Y_X11_needIsle.2.1 15 = .ok (.new 164, 3) := by decide +kernel
theorem dd_X11_needIsle_18 : decode Y_X11_needIsle.2.1 18 = .ok (.dup, 1) := by decide +kernel
theorem dd_X11_needIsle_19 : decode Y_X11_needIsle.2.1 19 = .ok (.ldc_w 365, 3) := by decide +kernel
theorem dd_X11_needIsle_22 : decode Y_X11_needIsle.2.1 22 = .ok (.invokespecial 168, 3) := by decide +kernel
theorem dd_X11_needIsle_25 : decode Y_X11_needIsle.2.1 25 = .ok (.athrow, 1) := by decide +kernel
theorem dd_X11_needIsle_26 : decode Y_X11_needIsle.2.1 26 = .ok (.return_, 1) := by decide +kernel
def F_X11_needIsle (t : Nat) (a1 : Int32) (M : zM) : zO := zjo (fun  (M1 : zM) => zE "java/util/NoSuchElementException" M1) (fun (k1 : zM → zO) => zit (a1 < 0) (k1 M) (zit (a1 < (M (zgr t 1) 0)) (zV M) (k1 M)))
set_option maxHeartbeats 1000000 in
set_option maxRecDepth 20000 in
theorem ct_X11_needIsle (l : Launch) (hl : l.stackTraces = false) (G : zG) (t : Nat) (ht : zsh t = 11) (a1 : Int32) (M : zM) : zMt l G Y_X11_needIsle 1 [.ref (G.2.1 + t), .int a1] M (F_X11_needIsle t a1 M) := by
  refine zMt_of (by decide +kernel) (Nat.le_of_ble_eq_true rfl) ?_
  show zEv l G Y_X11_needIsle 1 0 0 [(0, .ref (G.2.1 + t)), (1, .int a1)] [] M (zjo (fun  (M1 : zM) => zE "java/util/NoSuchElementException" M1) (fun (k1 : zM → zO) => zit (a1 < 0) (k1 M) (zit (a1 < (M (zgr t 1) 0)) (zV M) (k1 M))))
  refine ev_iload_n dd_X11_needIsle_0 1 rfl ?_
  refine ev_jo (fun (k1 : zM → zO) => ∀  (M1 : zM), zEv l G Y_X11_needIsle 1 0 15 [] [] M1 (k1 M1)) ?_ (fun k1 hk1 => ?_)
  · intro M1
    exact ev_throwNW hl zTh_NSE sr_RX11_365 dd_X11_needIsle_15 dd_X11_needIsle_18 dd_X11_needIsle_19 dd_X11_needIsle_22 dd_X11_needIsle_25 (Nat.le_of_ble_eq_true rfl) (Nat.le_of_ble_eq_true rfl)
  · refine ev_if_lt 15 dd_X11_needIsle_1 (by decide) ?_ ?_
    · refine ev_lv (lv' := []) [] rfl ?_
      exact hk1 _
    · refine ev_iload_n dd_X11_needIsle_4 1 rfl ?_
      refine ev_lv (lv' := [(0, .ref (G.2.1 + t))]) [0] rfl ?_
      refine ev_aload_n dd_X11_needIsle_5 0 rfl ?_
      refine ev_lv (lv' := []) [] rfl ?_
      refine ev_getR gf_RX11_19 dd_X11_needIsle_6 ht (by decide) ?_
      refine ev_getI gf_RX11_142 dd_X11_needIsle_9 (zg_11_1 ht) (by decide) ?_
      refine ev_icmp_lt 26 dd_X11_needIsle_12 (by decide) ?_ ?_
      · exact ev_vret dd_X11_needIsle_26 rfl (Nat.le_of_ble_eq_true rfl) rfl
      · exact hk1 _
/-! X11_caravan -/
theorem dd_X11_caravan_0 : decode Y_X11_caravan.2.1 0 = .ok (.aload_n 0, 1) := by decide +kernel
theorem dd_X11_caravan_1 : decode Y_X11_caravan.2.1 1 = .ok (.iload_n 1, 1) := by decide +kernel
theorem dd_X11_caravan_2 : decode Y_X11_caravan.2.1 2 = .ok (.invokevirtual 203, 3) := by decide +kernel
theorem dd_X11_caravan_5 : decode Y_X11_caravan.2.1 5 = .ok (.aload_n 0, 1) := by decide +kernel
theorem dd_X11_caravan_6 : decode Y_X11_caravan.2.1 6 = .ok (.getfield 40, 3) := by decide +kernel
theorem dd_X11_caravan_9 : decode Y_X11_caravan.2.1 9 = .ok (.getfield 206, 3) := by decide +kernel
theorem dd_X11_caravan_12 : decode Y_X11_caravan.2.1 12 = .ok (.iload_n 1, 1) := by decide +kernel
theorem dd_X11_caravan_13 : decode Y_X11_caravan.2.1 13 = .ok (.iaload, 1) := by decide +kernel
theorem dd_X11_caravan_14 : decode Y_X11_caravan.2.1 14 = .ok (.istore_n 2, 1) := by decide +kernel
theorem dd_X11_caravan_15 : decode Y_X11_caravan.2.1 15 = .ok (.iconst 1, 1) := by decide +kernel
theorem dd_X11_caravan_16 : decode Y_X11_caravan.2.1 16 = .ok (.istore_n 3, 1) := by decide +kernel
theorem dd_X11_caravan_17 : decode Y_X11_caravan.2.1 17 = .ok (.iload_n 2, 1) := by decide +kernel
theorem dd_X11_caravan_18 : decode Y_X11_caravan.2.1 18 = .ok (.iload_n 1, 1) := by decide +kernel
theorem dd_X11_caravan_19 : decode Y_X11_caravan.2.1 19 = .ok (.if_icmp .eq 25, 3) := by decide +kernel
theorem dd_X11_caravan_22 : decode Y_X11_caravan.2.1 22 = .ok (.iload_n 3, 1) := by decide +kernel
theorem dd_X11_caravan_23 : decode Y_X11_caravan.2.1 23 = .ok (.bipush 8, 2) := by decide +kernel
theorem dd_X11_caravan_25 : decode Y_X11_caravan.2.1 25 = .ok (.if_icmp .ge 19, 3) := by decide +kernel
theorem dd_X11_caravan_28 : decode Y_X11_caravan.2.1 28 = .ok (.aload_n 0, 1) := by decide +kernel
theorem dd_X11_caravan_29 : decode Y_X11_caravan.2.1 29 = .ok (.getfield 40, 3) := by decide +kernel
theorem dd_X11_caravan_32 : decode Y_X11_caravan.2.1 32 = .ok (.getfield 206, 3) := by decide +kernel
theorem dd_X11_caravan_35 : decode Y_X11_caravan.2.1 35 = .ok (.iload_n 2, 1) := by decide +kernel
theorem dd_X11_caravan_36 : decode Y_X11_caravan.2.1 36 = .ok (.iaload, 1) := by decide +kernel
theorem dd_X11_caravan_37 : decode Y_X11_caravan.2.1 37 = .ok (.istore_n 2, 1) := by decide +kernel
theorem dd_X11_caravan_38 : decode Y_X11_caravan.2.1 38 = .ok (.iinc 3 1, 3) := by decide +kernel
theorem dd_X11_caravan_41 : decode Y_X11_caravan.2.1 41 = .ok (.goto (-24), 3) := by decide +kernel
theorem dd_X11_caravan_44 : decode Y_X11_caravan.2.1 44 = .ok (.iload_n 3, 1) := by decide +kernel
theorem dd_X11_caravan_45 : decode Y_X11_caravan.2.1 45 = .ok (.ireturn, 1) := by decide +kernel
def F_X11_caravan_L17 (x0 : Nat) (x1 : Int32) (K44 : Int32 → zM → zO) : Nat → Int32 → Int32 → zM → zO
  | 0, _, _, _ => none
  | n + 1, x2, x3, M => zit (x2 = x1) (K44 x3 M) (zit (8 ≤ x3) (K44 x3 M) (zck (zin x2 8) (zlt (M (zgr (zgr x0 4) 1) (zix x2)) (fun v2 => F_X11_caravan_L17 x0 x1 K44 n v2 (x3 + 1) M))))
def F_X11_caravan (t : Nat) (a1 : Int32) (M : zM) : zO := zbV (F_X11_needIsle t a1 M) (fun M1 => zck (zin a1 8) (zlt (M1 (zgr (zgr t 4) 1) (zix a1)) (fun v1 => F_X11_caravan_L17 t a1 (fun (y1 : Int32) (M2 : zM) => zI y1 M2) zN v1 1 M1)))
set_option maxHeartbeats 1000000 in
set_option maxRecDepth 20000 in
theorem ct_X11_caravan_L17 (l : Launch) (hl : l.stackTraces = false) (G : zG) (x0 : Nat) (hx0 : zsh x0 = 11) (x1 : Int32) (K44 : Int32 → zM → zO) (hK44 : ∀ (x3 : Int32) (M : zM), zEv l G Y_X11_caravan 2 1 44 [(3, .int x3)] [] M (K44 x3 M)) : ∀ (n : Nat) (x2 : Int32) (x3 : Int32) (M : zM), zEv l G Y_X11_caravan 2 1 17 [(0, .ref (G.2.1 + x0)), (1, .int x1), (2, .int x2), (3, .int x3)] [] M (F_X11_caravan_L17 x0 x1 K44 n x2 x3 M) := by
  intro n
  induction n with
  | zero => intro x2 x3 M; exact ev_none
  | succ n ih =>
    intro x2 x3 M
    show zEv l G Y_X11_caravan 2 1 17 [(0, .ref (G.2.1 + x0)), (1, .int x1), (2, .int x2), (3, .int x3)] [] M (zit (x2 = x1) (K44 x3 M) (zit (8 ≤ x3) (K44 x3 M) (zck (zin x2 8) (zlt (M (zgr (zgr x0 4) 1) (zix x2)) (fun v2 => F_X11_caravan_L17 x0 x1 K44 n v2 (x3 + 1) M)))))
    refine ev_iload_n dd_X11_caravan_17 2 rfl ?_
    refine ev_iload_n dd_X11_caravan_18 1 rfl ?_
    refine ev_icmp_eq 44 dd_X11_caravan_19 (by decide) ?_ ?_
    · refine ev_lv (lv' := [(3, .int x3)]) [3] rfl ?_
      exact hK44 _ _
    · refine ev_iload_n dd_X11_caravan_22 3 rfl ?_
      refine ev_bipush (v := 8) dd_X11_caravan_23 (by decide) ?_
      refine ev_icmp_ge 44 dd_X11_caravan_25 (by decide) ?_ ?_
      · refine ev_lv (lv' := [(3, .int x3)]) [3] rfl ?_
        exact hK44 _ _
      · refine ev_aload_n dd_X11_caravan_28 0 rfl ?_
        refine ev_getR gf_RX11_40 dd_X11_caravan_29 hx0 (by decide) ?_
        refine ev_getR gf_RX11_206 dd_X11_caravan_32 (zg_11_4 hx0) (by decide) ?_
        refine ev_iload_n dd_X11_caravan_35 2 rfl ?_
        refine ev_lv (lv' := [(0, .ref (G.2.1 + x0)), (1, .int x1), (3, .int x3)]) [0, 1, 3] rfl ?_
        refine ev_iald dd_X11_caravan_36 ((zg_10_1 (zg_11_4 hx0)).1) ((zg_10_1 (zg_11_4 hx0)).2) ?_
        refine ev_topi (fun v2 => ?_)
        refine ev_istore_n (i := 2) (lv' := [(0, .ref (G.2.1 + x0)), (1, .int x1), (2, .int v2), (3, .int x3)]) [1, 2, 0, 3] dd_X11_caravan_37 rfl (by decide) rfl ?_
        refine ev_iinc (j := 3) (v := 1) (lv' := [(0, .ref (G.2.1 + x0)), (1, .int x1), (2, .int v2), (3, .int (x3 + 1))]) [1, 2, 3, 0] dd_X11_caravan_38 rfl (by decide) (by decide) rfl ?_
        refine ev_goto 17 dd_X11_caravan_41 (by decide) ?_
        exact ih _ _ _
set_option maxHeartbeats 1000000 in
set_option maxRecDepth 20000 in
theorem ct_X11_caravan (l : Launch) (hl : l.stackTraces = false) (G : zG) (t : Nat) (ht : zsh t = 11) (a1 : Int32) (M : zM) : zMt l G Y_X11_caravan 2 [.ref (G.2.1 + t), .int a1] M (F_X11_caravan t a1 M) := by
  refine zMt_of (by decide +kernel) (Nat.le_of_ble_eq_true rfl) ?_
  show zEv l G Y_X11_caravan 2 0 0 [(0, .ref (G.2.1 + t)), (1, .int a1)] [] M (zbV (F_X11_needIsle t a1 M) (fun M1 => zck (zin a1 8) (zlt (M1 (zgr (zgr t 4) 1) (zix a1)) (fun v1 => F_X11_caravan_L17 t a1 (fun (y1 : Int32) (M2 : zM) => zI y1 M2) zN v1 1 M1))))
  refine ev_aload_n dd_X11_caravan_0 0 rfl ?_
  refine ev_iload_n dd_X11_caravan_1 1 rfl ?_
  refine ev_callVV (As := [.int a1]) cl_RX11_203 (ct_X11_needIsle l hl G t ht a1 M) dd_X11_caravan_2 ht (by decide) (Nat.le_of_ble_eq_true rfl) (Nat.le_of_ble_eq_true rfl) rfl rfl (fun M1 => ?_)
  refine ev_aload_n dd_X11_caravan_5 0 rfl ?_
  refine ev_getR gf_RX11_40 dd_X11_caravan_6 ht (by decide) ?_
  refine ev_getR gf_RX11_206 dd_X11_caravan_9 (zg_11_4 ht) (by decide) ?_
  refine ev_iload_n dd_X11_caravan_12 1 rfl ?_
  refine ev_iald dd_X11_caravan_13 ((zg_10_1 (zg_11_4 ht)).1) ((zg_10_1 (zg_11_4 ht)).2) ?_
  refine ev_topi (fun v1 => ?_)
  refine ev_istore_n (i := 2) (lv' := [(0, .ref (G.2.1 + t)), (1, .int a1), (2, .int v1)]) [1, 2, 0] dd_X11_caravan_14 rfl (by decide) rfl ?_
  refine ev_iconst (v := 1) dd_X11_caravan_15 (by decide) ?_
  refine ev_istore_n (i := 3) (lv' := [(0, .ref (G.2.1 + t)), (1, .int a1), (2, .int v1), (3, .int 1)]) [1, 2, 3, 0] dd_X11_caravan_16 rfl (by decide) rfl ?_
  refine ct_X11_caravan_L17 l hl G t ht a1 _ (fun y1 M2 => ?_) zN _ _ _
  refine ev_iload_n dd_X11_caravan_44 0 rfl ?_
  refine ev_lv (lv' := []) [] rfl ?_
  exact ev_iret dd_X11_caravan_45 rfl (Nat.le_of_ble_eq_true rfl) rfl
/-! X11_draw -/
theorem dd_X11_draw_0 : decode Y_X11_draw.2.1 0 = .ok (.iload_n 1, 1) := by decide +kernel
theorem dd_X11_draw_1 : decode Y_X11_draw.2.1 1 = .ok (.ifCond .le 16, 3) := by decide +kernel
theorem dd_X11_draw_4 : decode Y_X11_draw.2.1 4 = .ok (.iload_n 0, 1) := by decide +kernel
theorem dd_X11_draw_5 : decode Y_X11_draw.2.1 5 = .ok (.bipush 16, 2) := by decide +kernel
theorem dd_X11_draw_7 : decode Y_X11_draw.2.1 7 = .ok (.iushr, 1) := by decide +kernel
theorem dd_X11_draw_8 : decode Y_X11_draw.2.1 8 = .ok (.sipush 32767, 3) := by decide +kernel
theorem dd_X11_draw_11 : decode Y_X11_draw.2.1 11 = .ok (.iand, 1) := by decide +kernel
theorem dd_X11_draw_12 : decode Y_X11_draw.2.1 12 = .ok (.iload_n 1, 1) := by decide +kernel
theorem dd_X11_draw_13 : decode Y_X11_draw.2.1 13 = .ok (.irem, 1) := by decide +kernel
theorem dd_X11_draw_14 : decode Y_X11_draw.2.1 14 = .ok (.goto 4, 3) := by decide +kernel
theorem dd_X11_draw_17 : decode Y_X11_draw.2.1 17 = .ok (.iconst 0, 1) := by decide +kernel
theorem dd_X11_draw_18 : decode Y_X11_draw.2.1 18 = .ok (.ireturn, 1) := by decide +kernel
def F_X11_draw (a0 : Int32) (a1 : Int32) (M : zM) : zO := zjo (fun (w1 : Int32) (M1 : zM) => zI w1 M1) (fun (k1 : Int32 → zM → zO) => zit (a1 ≤ 0) (k1 0 M) (zck (!decide (a1 = 0)) (k1 ((((a0.toUInt32 >>> ((16 : Int32).toUInt32 &&& Int32.toUInt32 31)).toInt32) &&& 32767) - (((a0.toUInt32 >>> ((16 : Int32).toUInt32 &&& Int32.toUInt32 31)).toInt32) &&& 32767) / a1 * a1) M)))
set_option maxHeartbeats 1000000 in
set_option maxRecDepth 20000 in
theorem ct_X11_draw (l : Launch) (hl : l.stackTraces = false) (G : zG) (a0 : Int32) (a1 : Int32) (M : zM) : zMt l G Y_X11_draw 1 [.int a0, .int a1] M (F_X11_draw a0 a1 M) := by
  refine zMt_of (by decide +kernel) (Nat.le_of_ble_eq_true rfl) ?_
  show zEv l G Y_X11_draw 1 0 0 [(0, .int a0), (1, .int a1)] [] M (zjo (fun (w1 : Int32) (M1 : zM) => zI w1 M1) (fun (k1 : Int32 → zM → zO) => zit (a1 ≤ 0) (k1 0 M) (zck (!decide (a1 = 0)) (k1 ((((a0.toUInt32 >>> ((16 : Int32).toUInt32 &&& Int32.toUInt32 31)).toInt32) &&& 32767) - (((a0.toUInt32 >>> ((16 : Int32).toUInt32 &&& Int32.toUInt32 31)).toInt32) &&& 32767) / a1 * a1) M))))
  refine ev_iload_n dd_X11_draw_0 1 rfl ?_
  refine ev_jo (fun (k1 : Int32 → zM → zO) => ∀ (w1 : Int32) (M1 : zM), zEv l G Y_X11_draw 1 0 18 [] [.int w1] M1 (k1 w1 M1)) ?_ (fun k1 hk1 => ?_)
  · intro w1 M1
    exact ev_iret dd_X11_draw_18 rfl (Nat.le_of_ble_eq_true rfl) rfl
  · refine ev_if_le 17 dd_X11_draw_1 (by decide) ?_ ?_
    · refine ev_lv (lv' := []) [] rfl ?_
      refine ev_iconst (v := 0) dd_X11_draw_17 (by decide) ?_
      exact hk1 _ _
    · refine ev_iload_n dd_X11_draw_4 0 rfl ?_
      refine ev_lv (lv' := [(1, .int a1)]) [1] rfl ?_
      refine ev_bipush (v := 16) dd_X11_draw_5 (by decide) ?_
      refine ev_iushr dd_X11_draw_7 ?_
      refine ev_sipush (v := 32767) dd_X11_draw_8 (by decide) ?_
      refine ev_iand dd_X11_draw_11 ?_
      refine ev_iload_n dd_X11_draw_12 0 rfl ?_
      refine ev_lv (lv' := []) [] rfl ?_
      refine ev_irem dd_X11_draw_13 ?_
      refine ev_goto 18 dd_X11_draw_14 (by decide) ?_
      exact hk1 _ _
/-! X11_nextSeed -/
theorem dd_X11_nextSeed_0 : decode Y_X11_nextSeed.2.1 0 = .ok (.iload_n 0, 1) := by decide +kernel
theorem dd_X11_nextSeed_1 : decode Y_X11_nextSeed.2.1 1 = .ok (.ldc_w 393, 3) := by decide +kernel
theorem dd_X11_nextSeed_4 : decode Y_X11_nextSeed.2.1 4 = .ok (.imul, 1) := by decide +kernel
theorem dd_X11_nextSeed_5 : decode Y_X11_nextSeed.2.1 5 = .ok (.sipush 12345, 3) := by decide +kernel
theorem dd_X11_nextSeed_8 : decode Y_X11_nextSeed.2.1 8 = .ok (.iadd, 1) := by decide +kernel
theorem dd_X11_nextSeed_9 : decode Y_X11_nextSeed.2.1 9 = .ok (.ireturn, 1) := by decide +kernel
def F_X11_nextSeed (a0 : Int32) (M : zM) : zO := zI ((a0 * 1103515245) + 12345) M
set_option maxHeartbeats 1000000 in
set_option maxRecDepth 20000 in
theorem ct_X11_nextSeed (l : Launch) (hl : l.stackTraces = false) (G : zG) (a0 : Int32) (M : zM) : zMt l G Y_X11_nextSeed 1 [.int a0] M (F_X11_nextSeed a0 M) := by
  refine zMt_of (by decide +kernel) (Nat.le_of_ble_eq_true rfl) ?_
  show zEv l G Y_X11_nextSeed 1 0 0 [(0, .int a0)] [] M (zI ((a0 * 1103515245) + 12345) M)
  refine ev_iload_n dd_X11_nextSeed_0 0 rfl ?_
  refine ev_lv (lv' := []) [] rfl ?_
  refine ev_ldcw (v := 1103515245) dd_X11_nextSeed_1 wk_RX11_393 ?_
  refine ev_imul dd_X11_nextSeed_4 ?_
  refine ev_sipush (v := 12345) dd_X11_nextSeed_5 (by decide) ?_
  refine ev_iadd dd_X11_nextSeed_8 ?_
  exact ev_iret dd_X11_nextSeed_9 rfl (Nat.le_of_ble_eq_true rfl) rfl
/-! X11_liveCentury -/
theorem dd_X11_liveCentury_0 : decode Y_X11_liveCentury.2.1 0 = .ok (.iload_n 1, 1) := by decide +kernel
theorem dd_X11_liveCentury_1 : decode Y_X11_liveCentury.2.1 1 = .ok (.istore_n 3, 1) := by decide +kernel
theorem dd_X11_liveCentury_2 : decode Y_X11_liveCentury.2.1 2 = .ok (.iconst 0, 1) := by decide +kernel
theorem dd_X11_liveCentury_3 : decode Y_X11_liveCentury.2.1 3 = .ok (.istore 4, 2) := by decide +kernel
theorem dd_X11_liveCentury_5 : decode Y_X11_liveCentury.2.1 5 = .ok (.iconst 0, 1) := by decide +kernel
theorem dd_X11_liveCentury_6 : decode Y_X11_liveCentury.2.1 6 = .ok (.istore 5, 2) := by decide +kernel
theorem dd_X11_liveCentury_8 : decode Y_X11_liveCentury.2.1 8 = .ok (.iload 5, 2) := by decide +kernel
theorem dd_X11_liveCentury_10 : decode Y_X11_liveCentury.2.1 10 = .ok (.iload_n 2, 1) := by decide +kernel
theorem dd_X11_liveCentury_11 : decode Y_X11_liveCentury.2.1 11 = .ok (.if_icmp .ge 99, 3) := by decide +kernel
theorem dd_X11_liveCentury_14 : decode Y_X11_liveCentury.2.1 14 = .ok (.aload_n 0, 1) := by decide +kernel
theorem dd_X11_liveCentury_15 : decode Y_X11_liveCentury.2.1 15 = .ok (.getfield 19, 3) := by decide +kernel
theorem dd_X11_liveCentury_18 : decode Y_X11_liveCentury.2.1 18 = .ok (.getfield 142, 3) := by decide +kernel
theorem dd_X11_liveCentury_21 : decode Y_X11_liveCentury.2.1 21 = .ok (.ifCond .le 75, 3) := by decide +kernel
theorem dd_X11_liveCentury_24 : decode Y_X11_liveCentury.2.1 24 = .ok (.iload_n 3, 1) := by decide +kernel
theorem dd_X11_liveCentury_25 : decode Y_X11_liveCentury.2.1 25 = .ok (.invokestatic 387, 3) := by decide +kernel
theorem dd_X11_liveCentury_28 : decode Y_X11_liveCentury.2.1 28 = .ok (.istore_n 3, 1) := by decide +kernel
theorem dd_X11_liveCentury_29 : decode Y_X11_liveCentury.2.1 29 = .ok (.iload_n 3, 1) := by decide +kernel
theorem dd_X11_liveCentury_30 : decode Y_X11_liveCentury.2.1 30 = .ok (.aload_n 0, 1) := by decide +kernel
theorem dd_X11_liveCentury_31 : decode Y_X11_liveCentury.2.1 31 = .ok (.getfield 19, 3) := by decide +kernel
theorem dd_X11_liveCentury_34 : decode Y_X11_liveCentury.2.1 34 = .ok (.getfield 142, 3) := by decide +kernel
theorem dd_X11_liveCentury_37 : decode Y_X11_liveCentury.2.1 37 = .ok (.invokestatic 390, 3) := by decide +kernel
theorem dd_X11_liveCentury_40 : decode Y_X11_liveCentury.2.1 40 = .ok (.istore 6, 2) := by decide +kernel
theorem dd_X11_liveCentury_42 : decode Y_X11_liveCentury.2.1 42 = .ok (.iload_n 3, 1) := by decide +kernel
theorem dd_X11_liveCentury_43 : decode Y_X11_liveCentury.2.1 43 = .ok (.invokestatic 387, 3) := by decide +kernel
theorem dd_X11_liveCentury_46 : decode Y_X11_liveCentury.2.1 46 = .ok (.istore_n 3, 1) := by decide +kernel
theorem dd_X11_liveCentury_47 : decode Y_X11_liveCentury.2.1 47 = .ok (.iload_n 3, 1) := by decide +kernel
theorem dd_X11_liveCentury_48 : decode Y_X11_liveCentury.2.1 48 = .ok (.aload_n 0, 1) := by decide +kernel
theorem dd_X11_liveCentury_49 : decode Y_X11_liveCentury.2.1 49 = .ok (.getfield 19, 3) := by decide +kernel
theorem dd_X11_liveCentury_52 : decode Y_X11_liveCentury.2.1 52 = .ok (.getfield 142, 3) := by decide +kernel
theorem dd_X11_liveCentury_55 : decode Y_X11_liveCentury.2.1 55 = .ok (.invokestatic 390, 3) := by decide +kernel
theorem dd_X11_liveCentury_58 : decode Y_X11_liveCentury.2.1 58 = .ok (.istore 7, 2) := by decide +kernel
theorem dd_X11_liveCentury_60 : decode Y_X11_liveCentury.2.1 60 = .ok (.iload 6, 2) := by decide +kernel
theorem dd_X11_liveCentury_62 : decode Y_X11_liveCentury.2.1 62 = .ok (.iload 7, 2) := by decide +kernel
theorem dd_X11_liveCentury_64 : decode Y_X11_liveCentury.2.1 64 = .ok (.if_icmp .eq 32, 3) := by decide +kernel
theorem dd_X11_liveCentury_67 : decode Y_X11_liveCentury.2.1 67 = .ok (.aload_n 0, 1) := by decide +kernel
theorem dd_X11_liveCentury_68 : decode Y_X11_liveCentury.2.1 68 = .ok (.getfield 44, 3) := by decide +kernel
theorem dd_X11_liveCentury_71 : decode Y_X11_liveCentury.2.1 71 = .ok (.iload 6, 2) := by decide +kernel
theorem dd_X11_liveCentury_73 : decode Y_X11_liveCentury.2.1 73 = .ok (.iload 7, 2) := by decide +kernel
theorem dd_X11_liveCentury_75 : decode Y_X11_liveCentury.2.1 75 = .ok (.invokevirtual 215, 3) := by decide +kernel
theorem dd_X11_liveCentury_78 : decode Y_X11_liveCentury.2.1 78 = .ok (.ifCond .eq 18, 3) := by decide +kernel
theorem dd_X11_liveCentury_81 : decode Y_X11_liveCentury.2.1 81 = .ok (.aload_n 0, 1) := by decide +kernel
theorem dd_X11_liveCentury_82 : decode Y_X11_liveCentury.2.1 82 = .ok (.getfield 44, 3) := by decide +kernel
theorem dd_X11_liveCentury_85 : decode Y_X11_liveCentury.2.1 85 = .ok (.iload 6, 2) := by decide +kernel
theorem dd_X11_liveCentury_87 : decode Y_X11_liveCentury.2.1 87 = .ok (.iload 7, 2) := by decide +kernel
theorem dd_X11_liveCentury_89 : decode Y_X11_liveCentury.2.1 89 = .ok (.invokevirtual 223, 3) := by decide +kernel
theorem dd_X11_liveCentury_92 : decode Y_X11_liveCentury.2.1 92 = .ok (.pop, 1) := by decide +kernel
theorem dd_X11_liveCentury_93 : decode Y_X11_liveCentury.2.1 93 = .ok (.iinc 4 1, 3) := by decide +kernel
theorem dd_X11_liveCentury_96 : decode Y_X11_liveCentury.2.1 96 = .ok (.aload_n 0, 1) := by decide +kernel
theorem dd_X11_liveCentury_97 : decode Y_X11_liveCentury.2.1 97 = .ok (.getfield 44, 3) := by decide +kernel
theorem dd_X11_liveCentury_100 : decode Y_X11_liveCentury.2.1 100 = .ok (.invokevirtual 226, 3) := by decide +kernel
theorem dd_X11_liveCentury_103 : decode Y_X11_liveCentury.2.1 103 = .ok (.pop, 1) := by decide +kernel
theorem dd_X11_liveCentury_104 : decode Y_X11_liveCentury.2.1 104 = .ok (.iinc 5 1, 3) := by decide +kernel
theorem dd_X11_liveCentury_107 : decode Y_X11_liveCentury.2.1 107 = .ok (.goto (-99), 3) := by decide +kernel
theorem dd_X11_liveCentury_110 : decode Y_X11_liveCentury.2.1 110 = .ok (.iload 4, 2) := by decide +kernel
theorem dd_X11_liveCentury_112 : decode Y_X11_liveCentury.2.1 112 = .ok (.ireturn, 1) := by decide +kernel
def F_X11_liveCentury_L8 (x0 : Nat) (x2 : Int32) (K110 : Int32 → zM → zO) : Nat → Int32 → Int32 → Int32 → zM → zO
  | 0, _, _, _, _ => none
  | n + 1, x3, x4, x5, M => zit (x2 ≤ x5) (K110 x4 M) (zjo (fun (w1 : Int32) (w2 : Int32) (M7 : zM) => zbI (F_X10_passYear (zgr x0 5) M7) (fun r7 M8 => F_X11_liveCentury_L8 x0 x2 K110 n w1 w2 (x5 + 1) M8)) (fun (k1 : Int32 → Int32 → zM → zO) => zit ((M (zgr x0 1) 0) ≤ 0) (k1 x3 x4 M) (zbI (F_X11_nextSeed x3 M) (fun r1 M1 => zbI (F_X11_draw r1 (M1 (zgr x0 1) 0) M1) (fun r2 M2 => zbI (F_X11_nextSeed r1 M2) (fun r3 M3 => zbI (F_X11_draw r3 (M3 (zgr x0 1) 0) M3) (fun r4 M4 => zit (r2 = r4) (k1 r3 x4 M4) (zbI (F_X10_lets (zgr x0 5) r2 r4 M4) (fun r5 M5 => zit (r5 = 0) (k1 r3 x4 M5) (zbI (F_X10_exchange (zgr x0 5) r2 r4 M5) (fun r6 M6 => k1 r3 (x4 + 1) M6)))))))))))
def F_X11_liveCentury (t : Nat) (a1 : Int32) (a2 : Int32) (M : zM) : zO := F_X11_liveCentury_L8 t a2 (fun (y1 : Int32) (M9 : zM) => zI y1 M9) zN a1 0 0 M
set_option maxHeartbeats 1000000 in
set_option maxRecDepth 20000 in
theorem ct_X11_liveCentury_L8 (l : Launch) (hl : l.stackTraces = false) (G : zG) (x0 : Nat) (hx0 : zsh x0 = 11) (x2 : Int32) (K110 : Int32 → zM → zO) (hK110 : ∀ (x4 : Int32) (M : zM), zEv l G Y_X11_liveCentury 13 0 110 [(4, .int x4)] [] M (K110 x4 M)) : ∀ (n : Nat) (x3 : Int32) (x4 : Int32) (x5 : Int32) (M : zM), zEv l G Y_X11_liveCentury 13 0 8 [(0, .ref (G.2.1 + x0)), (2, .int x2), (3, .int x3), (4, .int x4), (5, .int x5)] [] M (F_X11_liveCentury_L8 x0 x2 K110 n x3 x4 x5 M) := by
  intro n
  induction n with
  | zero => intro x3 x4 x5 M; exact ev_none
  | succ n ih =>
    intro x3 x4 x5 M
    show zEv l G Y_X11_liveCentury 13 0 8 [(0, .ref (G.2.1 + x0)), (2, .int x2), (3, .int x3), (4, .int x4), (5, .int x5)] [] M (zit (x2 ≤ x5) (K110 x4 M) (zjo (fun (w1 : Int32) (w2 : Int32) (M7 : zM) => zbI (F_X10_passYear (zgr x0 5) M7) (fun r7 M8 => F_X11_liveCentury_L8 x0 x2 K110 n w1 w2 (x5 + 1) M8)) (fun (k1 : Int32 → Int32 → zM → zO) => zit ((M (zgr x0 1) 0) ≤ 0) (k1 x3 x4 M) (zbI (F_X11_nextSeed x3 M) (fun r1 M1 => zbI (F_X11_draw r1 (M1 (zgr x0 1) 0) M1) (fun r2 M2 => zbI (F_X11_nextSeed r1 M2) (fun r3 M3 => zbI (F_X11_draw r3 (M3 (zgr x0 1) 0) M3) (fun r4 M4 => zit (r2 = r4) (k1 r3 x4 M4) (zbI (F_X10_lets (zgr x0 5) r2 r4 M4) (fun r5 M5 => zit (r5 = 0) (k1 r3 x4 M5) (zbI (F_X10_exchange (zgr x0 5) r2 r4 M5) (fun r6 M6 => k1 r3 (x4 + 1) M6))))))))))))
    refine ev_iload dd_X11_liveCentury_8 4 rfl ?_
    refine ev_iload_n dd_X11_liveCentury_10 1 rfl ?_
    refine ev_icmp_ge 110 dd_X11_liveCentury_11 (by decide) ?_ ?_
    · refine ev_lv (lv' := [(4, .int x4)]) [3] rfl ?_
      exact hK110 _ _
    · refine ev_aload_n dd_X11_liveCentury_14 0 rfl ?_
      refine ev_getR gf_RX11_19 dd_X11_liveCentury_15 hx0 (by decide) ?_
      refine ev_getI gf_RX11_142 dd_X11_liveCentury_18 (zg_11_1 hx0) (by decide) ?_
      refine ev_jo (fun (k1 : Int32 → Int32 → zM → zO) => ∀ (w1 : Int32) (w2 : Int32) (M7 : zM), zEv l G Y_X11_liveCentury 13 0 96 [(0, .ref (G.2.1 + x0)), (2, .int x2), (3, .int w1), (4, .int w2), (5, .int x5)] [] M7 (k1 w1 w2 M7)) ?_ (fun k1 hk1 => ?_)
      · intro w1 w2 M7
        refine ev_aload_n dd_X11_liveCentury_96 0 rfl ?_
        refine ev_getR gf_RX11_44 dd_X11_liveCentury_97 hx0 (by decide) ?_
        refine ev_callVI (As := []) cl_RX11_226 (ct_X10_passYear l hl G (zgr x0 5) (zg_11_5 hx0) M7) dd_X11_liveCentury_100 (zg_11_5 hx0) (by decide) (Nat.le_of_ble_eq_true rfl) (Nat.le_of_ble_eq_true rfl) rfl rfl (fun r7 M8 => ?_)
        refine ev_pop dd_X11_liveCentury_103 rfl ?_
        refine ev_iinc (j := 4) (v := 1) (lv' := [(0, .ref (G.2.1 + x0)), (2, .int x2), (3, .int w1), (4, .int w2), (5, .int (x5 + 1))]) [1, 2, 3, 4, 0] dd_X11_liveCentury_104 rfl (by decide) (by decide) rfl ?_
        refine ev_goto 8 dd_X11_liveCentury_107 (by decide) ?_
        exact ih _ _ _ _
      · refine ev_if_le 96 dd_X11_liveCentury_21 (by decide) ?_ ?_
        · exact hk1 _ _ _
        · refine ev_iload_n dd_X11_liveCentury_24 2 rfl ?_
          refine ev_lv (lv' := [(0, .ref (G.2.1 + x0)), (2, .int x2), (4, .int x4), (5, .int x5)]) [0, 1, 3, 4] rfl ?_
          refine ev_callSI (As := [.int x3]) cl_RX11_387 (ct_X11_nextSeed l hl G x3 M) dd_X11_liveCentury_25 (by decide) (Nat.le_of_ble_eq_true rfl) (Nat.le_of_ble_eq_true rfl) rfl rfl (fun r1 M1 => ?_)
          refine ev_istore_n (i := 3) (lv' := [(0, .ref (G.2.1 + x0)), (2, .int x2), (3, .int r1), (4, .int x4), (5, .int x5)]) [1, 2, 0, 3, 4] dd_X11_liveCentury_28 rfl (by decide) rfl ?_
          refine ev_iload_n dd_X11_liveCentury_29 2 rfl ?_
          refine ev_aload_n dd_X11_liveCentury_30 0 rfl ?_
          refine ev_getR gf_RX11_19 dd_X11_liveCentury_31 hx0 (by decide) ?_
          refine ev_getI gf_RX11_142 dd_X11_liveCentury_34 (zg_11_1 hx0) (by decide) ?_
          refine ev_callSI (As := [.int r1, .int (M1 (zgr x0 1) 0)]) cl_RX11_390 (ct_X11_draw l hl G r1 (M1 (zgr x0 1) 0) M1) dd_X11_liveCentury_37 (by decide) (Nat.le_of_ble_eq_true rfl) (Nat.le_of_ble_eq_true rfl) rfl rfl (fun r2 M2 => ?_)
          refine ev_istore (i := 6) (lv' := [(0, .ref (G.2.1 + x0)), (2, .int x2), (3, .int r1), (4, .int x4), (5, .int x5), (6, .int r2)]) [1, 2, 3, 4, 5, 0] dd_X11_liveCentury_40 (by decide) rfl ?_
          refine ev_iload_n dd_X11_liveCentury_42 2 rfl ?_
          refine ev_lv (lv' := [(0, .ref (G.2.1 + x0)), (2, .int x2), (4, .int x4), (5, .int x5), (6, .int r2)]) [0, 1, 3, 4, 5] rfl ?_
          refine ev_callSI (As := [.int r1]) cl_RX11_387 (ct_X11_nextSeed l hl G r1 M2) dd_X11_liveCentury_43 (by decide) (Nat.le_of_ble_eq_true rfl) (Nat.le_of_ble_eq_true rfl) rfl rfl (fun r3 M3 => ?_)
          refine ev_istore_n (i := 3) (lv' := [(0, .ref (G.2.1 + x0)), (2, .int x2), (3, .int r3), (4, .int x4), (5, .int x5), (6, .int r2)]) [1, 2, 0, 3, 4, 5] dd_X11_liveCentury_46 rfl (by decide) rfl ?_
          refine ev_iload_n dd_X11_liveCentury_47 2 rfl ?_
          refine ev_aload_n dd_X11_liveCentury_48 0 rfl ?_
          refine ev_getR gf_RX11_19 dd_X11_liveCentury_49 hx0 (by decide) ?_
          refine ev_getI gf_RX11_142 dd_X11_liveCentury_52 (zg_11_1 hx0) (by decide) ?_
          refine ev_callSI (As := [.int r3, .int (M3 (zgr x0 1) 0)]) cl_RX11_390 (ct_X11_draw l hl G r3 (M3 (zgr x0 1) 0) M3) dd_X11_liveCentury_55 (by decide) (Nat.le_of_ble_eq_true rfl) (Nat.le_of_ble_eq_true rfl) rfl rfl (fun r4 M4 => ?_)
          refine ev_istore (i := 7) (lv' := [(0, .ref (G.2.1 + x0)), (2, .int x2), (3, .int r3), (4, .int x4), (5, .int x5), (6, .int r2), (7, .int r4)]) [1, 2, 3, 4, 5, 6, 0] dd_X11_liveCentury_58 (by decide) rfl ?_
          refine ev_iload dd_X11_liveCentury_60 5 rfl ?_
          refine ev_iload dd_X11_liveCentury_62 6 rfl ?_
          refine ev_icmp_eq 96 dd_X11_liveCentury_64 (by decide) ?_ ?_
          · refine ev_lv (lv' := [(0, .ref (G.2.1 + x0)), (2, .int x2), (3, .int r3), (4, .int x4), (5, .int x5)]) [0, 1, 2, 3, 4] rfl ?_
            exact hk1 _ _ _
          · refine ev_aload_n dd_X11_liveCentury_67 0 rfl ?_
            refine ev_getR gf_RX11_44 dd_X11_liveCentury_68 hx0 (by decide) ?_
            refine ev_iload dd_X11_liveCentury_71 5 rfl ?_
            refine ev_iload dd_X11_liveCentury_73 6 rfl ?_
            refine ev_callVI (As := [.int r2, .int r4]) cl_RX11_215 (ct_X10_lets l hl G (zgr x0 5) (zg_11_5 hx0) r2 r4 M4) dd_X11_liveCentury_75 (zg_11_5 hx0) (by decide) (Nat.le_of_ble_eq_true rfl) (Nat.le_of_ble_eq_true rfl) rfl rfl (fun r5 M5 => ?_)
            refine ev_if_eq 96 dd_X11_liveCentury_78 (by decide) ?_ ?_
            · refine ev_lv (lv' := [(0, .ref (G.2.1 + x0)), (2, .int x2), (3, .int r3), (4, .int x4), (5, .int x5)]) [0, 1, 2, 3, 4] rfl ?_
              exact hk1 _ _ _
            · refine ev_aload_n dd_X11_liveCentury_81 0 rfl ?_
              refine ev_getR gf_RX11_44 dd_X11_liveCentury_82 hx0 (by decide) ?_
              refine ev_iload dd_X11_liveCentury_85 5 rfl ?_
              refine ev_lv (lv' := [(0, .ref (G.2.1 + x0)), (2, .int x2), (3, .int r3), (4, .int x4), (5, .int x5), (7, .int r4)]) [0, 1, 2, 3, 4, 6] rfl ?_
              refine ev_iload dd_X11_liveCentury_87 5 rfl ?_
              refine ev_lv (lv' := [(0, .ref (G.2.1 + x0)), (2, .int x2), (3, .int r3), (4, .int x4), (5, .int x5)]) [0, 1, 2, 3, 4] rfl ?_
              refine ev_callVI (As := [.int r2, .int r4]) cl_RX11_223 (ct_X10_exchange l hl G (zgr x0 5) (zg_11_5 hx0) r2 r4 M5) dd_X11_liveCentury_89 (zg_11_5 hx0) (by decide) (Nat.le_of_ble_eq_true rfl) (Nat.le_of_ble_eq_true rfl) rfl rfl (fun r6 M6 => ?_)
              refine ev_pop dd_X11_liveCentury_92 rfl ?_
              refine ev_iinc (j := 3) (v := 1) (lv' := [(0, .ref (G.2.1 + x0)), (2, .int x2), (3, .int r3), (4, .int (x4 + 1)), (5, .int x5)]) [1, 2, 3, 0, 4] dd_X11_liveCentury_93 rfl (by decide) (by decide) rfl ?_
              exact hk1 _ _ _
set_option maxHeartbeats 1000000 in
set_option maxRecDepth 20000 in
theorem ct_X11_liveCentury (l : Launch) (hl : l.stackTraces = false) (G : zG) (t : Nat) (ht : zsh t = 11) (a1 : Int32) (a2 : Int32) (M : zM) : zMt l G Y_X11_liveCentury 13 [.ref (G.2.1 + t), .int a1, .int a2] M (F_X11_liveCentury t a1 a2 M) := by
  refine zMt_of (by decide +kernel) (Nat.le_of_ble_eq_true rfl) ?_
  show zEv l G Y_X11_liveCentury 13 0 0 [(0, .ref (G.2.1 + t)), (1, .int a1), (2, .int a2)] [] M (F_X11_liveCentury_L8 t a2 (fun (y1 : Int32) (M9 : zM) => zI y1 M9) zN a1 0 0 M)
  refine ev_iload_n dd_X11_liveCentury_0 1 rfl ?_
  refine ev_lv (lv' := [(0, .ref (G.2.1 + t)), (2, .int a2)]) [0, 2] rfl ?_
  refine ev_istore_n (i := 3) (lv' := [(0, .ref (G.2.1 + t)), (2, .int a2), (3, .int a1)]) [1, 2, 0] dd_X11_liveCentury_1 rfl (by decide) rfl ?_
  refine ev_iconst (v := 0) dd_X11_liveCentury_2 (by decide) ?_
  refine ev_istore (i := 4) (lv' := [(0, .ref (G.2.1 + t)), (2, .int a2), (3, .int a1), (4, .int 0)]) [1, 2, 3, 0] dd_X11_liveCentury_3 (by decide) rfl ?_
  refine ev_iconst (v := 0) dd_X11_liveCentury_5 (by decide) ?_
  refine ev_istore (i := 5) (lv' := [(0, .ref (G.2.1 + t)), (2, .int a2), (3, .int a1), (4, .int 0), (5, .int 0)]) [1, 2, 3, 4, 0] dd_X11_liveCentury_6 (by decide) rfl ?_
  refine ct_X11_liveCentury_L8 l hl G t ht a2 _ (fun y1 M9 => ?_) zN _ _ _ _
  refine ev_iload dd_X11_liveCentury_110 0 rfl ?_
  refine ev_lv (lv' := []) [] rfl ?_
  exact ev_iret dd_X11_liveCentury_112 rfl (Nat.le_of_ble_eq_true rfl) rfl
/-! X11_needAmount -/
theorem dd_X11_needAmount_0 : decode Y_X11_needAmount.2.1 0 = .ok (.iload_n 0, 1) := by decide +kernel
theorem dd_X11_needAmount_1 : decode Y_X11_needAmount.2.1 1 = .ok (.ifCond .lt 8, 3) := by decide +kernel
theorem dd_X11_needAmount_4 : decode Y_X11_needAmount.2.1 4 = .ok (.iload_n 0, 1) := by decide +kernel
theorem dd_X11_needAmount_5 : decode Y_X11_needAmount.2.1 5 = .ok (.iload_n 1, 1) := by decide +kernel
theorem dd_X11_needAmount_6 : decode Y_X11_needAmount.2.1 6 = .ok (.if_icmp .le 14, 3) := by decide +kernel
theorem dd_X11_needAmount_9 : decode Y_X11_needAmount.2.1 9 = .ok (.new 119, 3) := by decide +kernel
theorem dd_X11_needAmount_12 : decode Y_X11_needAmount.2.1 12 = .ok (.dup, 1) := by decide +kernel
theorem dd_X11_needAmount_13 : decode Y_X11_needAmount.2.1 13 = .ok (.ldc_w 377, 3) := by decide +kernel
theorem dd_X11_needAmount_16 : decode Y_X11_needAmount.2.1 16 = .ok (.invokespecial 123, 3) := by decide +kernel
theorem dd_X11_needAmount_19 : decode Y_X11_needAmount.2.1 19 = .ok (.athrow, 1) := by decide +kernel
theorem dd_X11_needAmount_20 : decode Y_X11_needAmount.2.1 20 = .ok (.return_, 1) := by decide +kernel
def F_X11_needAmount (a0 : Int32) (a1 : Int32) (M : zM) : zO := zjo (fun  (M1 : zM) => zE "java/lang/IllegalArgumentException" M1) (fun (k1 : zM → zO) => zit (a0 < 0) (k1 M) (zit (a0 ≤ a1) (zV M) (k1 M)))
set_option maxHeartbeats 1000000 in
set_option maxRecDepth 20000 in
theorem ct_X11_needAmount (l : Launch) (hl : l.stackTraces = false) (G : zG) (a0 : Int32) (a1 : Int32) (M : zM) : zMt l G Y_X11_needAmount 1 [.int a0, .int a1] M (F_X11_needAmount a0 a1 M) := by
  refine zMt_of (by decide +kernel) (Nat.le_of_ble_eq_true rfl) ?_
  show zEv l G Y_X11_needAmount 1 0 0 [(0, .int a0), (1, .int a1)] [] M (zjo (fun  (M1 : zM) => zE "java/lang/IllegalArgumentException" M1) (fun (k1 : zM → zO) => zit (a0 < 0) (k1 M) (zit (a0 ≤ a1) (zV M) (k1 M))))
  refine ev_iload_n dd_X11_needAmount_0 0 rfl ?_
  refine ev_jo (fun (k1 : zM → zO) => ∀  (M1 : zM), zEv l G Y_X11_needAmount 1 0 9 [] [] M1 (k1 M1)) ?_ (fun k1 hk1 => ?_)
  · intro M1
    exact ev_throwSW hl zTh_IAE sr_RX11_377 dd_X11_needAmount_9 dd_X11_needAmount_12 dd_X11_needAmount_13 dd_X11_needAmount_16 dd_X11_needAmount_19 (Nat.le_of_ble_eq_true rfl) (Nat.le_of_ble_eq_true rfl)
  · refine ev_if_lt 9 dd_X11_needAmount_1 (by decide) ?_ ?_
    · refine ev_lv (lv' := []) [] rfl ?_
      exact hk1 _
    · refine ev_iload_n dd_X11_needAmount_4 0 rfl ?_
      refine ev_lv (lv' := [(1, .int a1)]) [1] rfl ?_
      refine ev_iload_n dd_X11_needAmount_5 0 rfl ?_
      refine ev_lv (lv' := []) [] rfl ?_
      refine ev_icmp_le 20 dd_X11_needAmount_6 (by decide) ?_ ?_
      · exact ev_vret dd_X11_needAmount_20 rfl (Nat.le_of_ble_eq_true rfl) rfl
      · exact hk1 _
/-! X11_needIsleOrNone -/
theorem dd_X11_needIsleOrNone_0 : decode Y_X11_needIsleOrNone.2.1 0 = .ok (.iload_n 1, 1) := by decide +kernel
theorem dd_X11_needIsleOrNone_1 : decode Y_X11_needIsleOrNone.2.1 1 = .ok (.iconst (-1), 1) := by decide +kernel
theorem dd_X11_needIsleOrNone_2 : decode Y_X11_needIsleOrNone.2.1 2 = .ok (.if_icmp .eq 8, 3) := by decide +kernel
theorem dd_X11_needIsleOrNone_5 : decode Y_X11_needIsleOrNone.2.1 5 = .ok (.aload_n 0, 1) := by decide +kernel
theorem dd_X11_needIsleOrNone_6 : decode Y_X11_needIsleOrNone.2.1 6 = .ok (.iload_n 1, 1) := by decide +kernel
theorem dd_X11_needIsleOrNone_7 : decode Y_X11_needIsleOrNone.2.1 7 = .ok (.invokevirtual 203, 3) := by decide +kernel
theorem dd_X11_needIsleOrNone_10 : decode Y_X11_needIsleOrNone.2.1 10 = .ok (.return_, 1) := by decide +kernel
def F_X11_needIsleOrNone (t : Nat) (a1 : Int32) (M : zM) : zO := zjo (fun  (M2 : zM) => zV M2) (fun (k1 : zM → zO) => zit (a1 = (-1)) (k1 M) (zbV (F_X11_needIsle t a1 M) (fun M1 => k1 M1)))
set_option maxHeartbeats 1000000 in
set_option maxRecDepth 20000 in
theorem ct_X11_needIsleOrNone (l : Launch) (hl : l.stackTraces = false) (G : zG) (t : Nat) (ht : zsh t = 11) (a1 : Int32) (M : zM) : zMt l G Y_X11_needIsleOrNone 2 [.ref (G.2.1 + t), .int a1] M (F_X11_needIsleOrNone t a1 M) := by
  refine zMt_of (by decide +kernel) (Nat.le_of_ble_eq_true rfl) ?_
  show zEv l G Y_X11_needIsleOrNone 2 0 0 [(0, .ref (G.2.1 + t)), (1, .int a1)] [] M (zjo (fun  (M2 : zM) => zV M2) (fun (k1 : zM → zO) => zit (a1 = (-1)) (k1 M) (zbV (F_X11_needIsle t a1 M) (fun M1 => k1 M1))))
  refine ev_iload_n dd_X11_needIsleOrNone_0 1 rfl ?_
  refine ev_iconst (v := (-1)) dd_X11_needIsleOrNone_1 (by decide) ?_
  refine ev_jo (fun (k1 : zM → zO) => ∀  (M2 : zM), zEv l G Y_X11_needIsleOrNone 2 1 10 [] [] M2 (k1 M2)) ?_ (fun k1 hk1 => ?_)
  · intro M2
    exact ev_vret dd_X11_needIsleOrNone_10 rfl (Nat.le_of_ble_eq_true rfl) rfl
  · refine ev_icmp_eq 10 dd_X11_needIsleOrNone_2 (by decide) ?_ ?_
    · refine ev_lv (lv' := []) [] rfl ?_
      refine ev_u (u' := 1) (by decide) ?_
      exact hk1 _
    · refine ev_aload_n dd_X11_needIsleOrNone_5 0 rfl ?_
      refine ev_lv (lv' := [(1, .int a1)]) [1] rfl ?_
      refine ev_iload_n dd_X11_needIsleOrNone_6 0 rfl ?_
      refine ev_lv (lv' := []) [] rfl ?_
      refine ev_callVV (As := [.int a1]) cl_RX11_203 (ct_X11_needIsle l hl G t ht a1 M) dd_X11_needIsleOrNone_7 ht (by decide) (Nat.le_of_ble_eq_true rfl) (Nat.le_of_ble_eq_true rfl) rfl rfl (fun M1 => ?_)
      exact hk1 _
/-! X11_century -/
theorem dd_X11_century_0 : decode Y_X11_century.2.1 0 = .ok (.aload_n 0, 1) := by decide +kernel
theorem dd_X11_century_1 : decode Y_X11_century.2.1 1 = .ok (.iload_n 3, 1) := by decide +kernel
theorem dd_X11_century_2 : decode Y_X11_century.2.1 2 = .ok (.invokevirtual 254, 3) := by decide +kernel
theorem dd_X11_century_5 : decode Y_X11_century.2.1 5 = .ok (.iload_n 2, 1) := by decide +kernel
theorem dd_X11_century_6 : decode Y_X11_century.2.1 6 = .ok (.bipush 100, 2) := by decide +kernel
theorem dd_X11_century_8 : decode Y_X11_century.2.1 8 = .ok (.invokestatic 323, 3) := by decide +kernel
theorem dd_X11_century_11 : decode Y_X11_century.2.1 11 = .ok (.aload_n 0, 1) := by decide +kernel
theorem dd_X11_century_12 : decode Y_X11_century.2.1 12 = .ok (.getfield 44, 3) := by decide +kernel
theorem dd_X11_century_15 : decode Y_X11_century.2.1 15 = .ok (.aload_n 0, 1) := by decide +kernel
theorem dd_X11_century_16 : decode Y_X11_century.2.1 16 = .ok (.getfield 40, 3) := by decide +kernel
theorem dd_X11_century_19 : decode Y_X11_century.2.1 19 = .ok (.invokevirtual 291, 3) := by decide +kernel
theorem dd_X11_century_22 : decode Y_X11_century.2.1 22 = .ok (.aload_n 0, 1) := by decide +kernel
theorem dd_X11_century_23 : decode Y_X11_century.2.1 23 = .ok (.iload_n 1, 1) := by decide +kernel
theorem dd_X11_century_24 : decode Y_X11_century.2.1 24 = .ok (.iload_n 2, 1) := by decide +kernel
theorem dd_X11_century_25 : decode Y_X11_century.2.1 25 = .ok (.invokevirtual 353, 3) := by decide +kernel
theorem dd_X11_century_28 : decode Y_X11_century.2.1 28 = .ok (.istore 4, 2) := by decide +kernel
theorem dd_X11_century_30 : decode Y_X11_century.2.1 30 = .ok (.iload_n 3, 1) := by decide +kernel
theorem dd_X11_century_31 : decode Y_X11_century.2.1 31 = .ok (.iconst (-1), 1) := by decide +kernel
theorem dd_X11_century_32 : decode Y_X11_century.2.1 32 = .ok (.if_icmp .ne 8, 3) := by decide +kernel
theorem dd_X11_century_35 : decode Y_X11_century.2.1 35 = .ok (.iload 4, 2) := by decide +kernel
theorem dd_X11_century_37 : decode Y_X11_century.2.1 37 = .ok (.goto 12, 3) := by decide +kernel
theorem dd_X11_century_40 : decode Y_X11_century.2.1 40 = .ok (.aload_n 0, 1) := by decide +kernel
theorem dd_X11_century_41 : decode Y_X11_century.2.1 41 = .ok (.getfield 44, 3) := by decide +kernel
theorem dd_X11_century_44 : decode Y_X11_century.2.1 44 = .ok (.getfield 206, 3) := by decide +kernel
theorem dd_X11_century_47 : decode Y_X11_century.2.1 47 = .ok (.iload_n 3, 1) := by decide +kernel
theorem dd_X11_century_48 : decode Y_X11_century.2.1 48 = .ok (.iaload, 1) := by decide +kernel
theorem dd_X11_century_49 : decode Y_X11_century.2.1 49 = .ok (.ireturn, 1) := by decide +kernel
def F_X11_century (t : Nat) (a1 : Int32) (a2 : Int32) (a3 : Int32) (M : zM) : zO := zbV (F_X11_needIsleOrNone t a3 M) (fun M1 => zbV (F_X11_needAmount a2 100 M1) (fun M2 => zbV (F_X10_copy (zgr t 5) (zgr t 4) M2) (fun M3 => zbI (F_X11_liveCentury t a1 a2 M3) (fun r1 M4 => zjo (fun (w1 : Int32) (M5 : zM) => zI w1 M5) (fun (k1 : Int32 → zM → zO) => zit (a3 = (-1)) (k1 r1 M4) (zck (zin a3 8) (k1 (M4 (zgr (zgr t 5) 1) (zix a3)) M4)))))))
set_option maxHeartbeats 1000000 in
set_option maxRecDepth 20000 in
theorem ct_X11_century (l : Launch) (hl : l.stackTraces = false) (G : zG) (t : Nat) (ht : zsh t = 11) (a1 : Int32) (a2 : Int32) (a3 : Int32) (M : zM) : zMt l G Y_X11_century 14 [.ref (G.2.1 + t), .int a1, .int a2, .int a3] M (F_X11_century t a1 a2 a3 M) := by
  refine zMt_of (by decide +kernel) (Nat.le_of_ble_eq_true rfl) ?_
  show zEv l G Y_X11_century 14 0 0 [(0, .ref (G.2.1 + t)), (1, .int a1), (2, .int a2), (3, .int a3)] [] M (zbV (F_X11_needIsleOrNone t a3 M) (fun M1 => zbV (F_X11_needAmount a2 100 M1) (fun M2 => zbV (F_X10_copy (zgr t 5) (zgr t 4) M2) (fun M3 => zbI (F_X11_liveCentury t a1 a2 M3) (fun r1 M4 => zjo (fun (w1 : Int32) (M5 : zM) => zI w1 M5) (fun (k1 : Int32 → zM → zO) => zit (a3 = (-1)) (k1 r1 M4) (zck (zin a3 8) (k1 (M4 (zgr (zgr t 5) 1) (zix a3)) M4))))))))
  refine ev_aload_n dd_X11_century_0 0 rfl ?_
  refine ev_iload_n dd_X11_century_1 3 rfl ?_
  refine ev_callVV (As := [.int a3]) cl_RX11_254 (ct_X11_needIsleOrNone l hl G t ht a3 M) dd_X11_century_2 ht (by decide) (Nat.le_of_ble_eq_true rfl) (Nat.le_of_ble_eq_true rfl) rfl rfl (fun M1 => ?_)
  refine ev_iload_n dd_X11_century_5 2 rfl ?_
  refine ev_bipush (v := 100) dd_X11_century_6 (by decide) ?_
  refine ev_callSV (As := [.int a2, .int 100]) cl_RX11_323 (ct_X11_needAmount l hl G a2 100 M1) dd_X11_century_8 (by decide) (Nat.le_of_ble_eq_true rfl) (Nat.le_of_ble_eq_true rfl) rfl rfl (fun M2 => ?_)
  refine ev_aload_n dd_X11_century_11 0 rfl ?_
  refine ev_getR gf_RX11_44 dd_X11_century_12 ht (by decide) ?_
  refine ev_aload_n dd_X11_century_15 0 rfl ?_
  refine ev_getR gf_RX11_40 dd_X11_century_16 ht (by decide) ?_
  refine ev_callVV (As := [.ref (G.2.1 + (zgr t 4))]) cl_RX11_291 (ct_X10_copy l hl G (zgr t 5) (zg_11_5 ht) (zgr t 4) (zg_11_4 ht) M2) dd_X11_century_19 (zg_11_5 ht) (by decide) (Nat.le_of_ble_eq_true rfl) (Nat.le_of_ble_eq_true rfl) rfl rfl (fun M3 => ?_)
  refine ev_aload_n dd_X11_century_22 0 rfl ?_
  refine ev_iload_n dd_X11_century_23 1 rfl ?_
  refine ev_lv (lv' := [(0, .ref (G.2.1 + t)), (2, .int a2), (3, .int a3)]) [0, 2, 3] rfl ?_
  refine ev_iload_n dd_X11_century_24 1 rfl ?_
  refine ev_lv (lv' := [(0, .ref (G.2.1 + t)), (3, .int a3)]) [0, 2] rfl ?_
  refine ev_callVI (As := [.int a1, .int a2]) cl_RX11_353 (ct_X11_liveCentury l hl G t ht a1 a2 M3) dd_X11_century_25 ht (by decide) (Nat.le_of_ble_eq_true rfl) (Nat.le_of_ble_eq_true rfl) rfl rfl (fun r1 M4 => ?_)
  refine ev_istore (i := 4) (lv' := [(0, .ref (G.2.1 + t)), (3, .int a3), (4, .int r1)]) [1, 2, 0] dd_X11_century_28 (by decide) rfl ?_
  refine ev_iload_n dd_X11_century_30 1 rfl ?_
  refine ev_iconst (v := (-1)) dd_X11_century_31 (by decide) ?_
  refine ev_jo (fun (k1 : Int32 → zM → zO) => ∀ (w1 : Int32) (M5 : zM), zEv l G Y_X11_century 14 2 49 [] [.int w1] M5 (k1 w1 M5)) ?_ (fun k1 hk1 => ?_)
  · intro w1 M5
    exact ev_iret dd_X11_century_49 rfl (Nat.le_of_ble_eq_true rfl) rfl
  · refine ev_icmp_ne 40 dd_X11_century_32 (by decide) ?_ ?_
    · refine ev_lv (lv' := [(0, .ref (G.2.1 + t)), (3, .int a3)]) [0, 1] rfl ?_
      refine ev_aload_n dd_X11_century_40 0 rfl ?_
      refine ev_lv (lv' := [(3, .int a3)]) [1] rfl ?_
      refine ev_getR gf_RX11_44 dd_X11_century_41 ht (by decide) ?_
      refine ev_getR gf_RX11_206 dd_X11_century_44 (zg_11_5 ht) (by decide) ?_
      refine ev_iload_n dd_X11_century_47 0 rfl ?_
      refine ev_lv (lv' := []) [] rfl ?_
      refine ev_iald dd_X11_century_48 ((zg_10_1 (zg_11_5 ht)).1) ((zg_10_1 (zg_11_5 ht)).2) ?_
      exact hk1 _ _
    · refine ev_lv (lv' := [(4, .int r1)]) [2] rfl ?_
      refine ev_iload dd_X11_century_35 0 rfl ?_
      refine ev_lv (lv' := []) [] rfl ?_
      refine ev_goto 49 dd_X11_century_37 (by decide) ?_
      exact hk1 _ _
/-! X11_claimGain -/
theorem dd_X11_claimGain_0 : decode Y_X11_claimGain.2.1 0 = .ok (.iload_n 2, 1) := by decide +kernel
theorem dd_X11_claimGain_1 : decode Y_X11_claimGain.2.1 1 = .ok (.iload_n 3, 1) := by decide +kernel
theorem dd_X11_claimGain_2 : decode Y_X11_claimGain.2.1 2 = .ok (.if_icmp .ne 5, 3) := by decide +kernel
theorem dd_X11_claimGain_5 : decode Y_X11_claimGain.2.1 5 = .ok (.iconst 0, 1) := by decide +kernel
theorem dd_X11_claimGain_6 : decode Y_X11_claimGain.2.1 6 = .ok (.ireturn, 1) := by decide +kernel
theorem dd_X11_claimGain_7 : decode Y_X11_claimGain.2.1 7 = .ok (.bipush 10, 2) := by decide +kernel
theorem dd_X11_claimGain_9 : decode Y_X11_claimGain.2.1 9 = .ok (.aload_n 0, 1) := by decide +kernel
theorem dd_X11_claimGain_10 : decode Y_X11_claimGain.2.1 10 = .ok (.getfield 19, 3) := by decide +kernel
theorem dd_X11_claimGain_13 : decode Y_X11_claimGain.2.1 13 = .ok (.getfield 172, 3) := by decide +kernel
theorem dd_X11_claimGain_16 : decode Y_X11_claimGain.2.1 16 = .ok (.getfield 176, 3) := by decide +kernel
theorem dd_X11_claimGain_19 : decode Y_X11_claimGain.2.1 19 = .ok (.iload_n 2, 1) := by decide +kernel
theorem dd_X11_claimGain_20 : decode Y_X11_claimGain.2.1 20 = .ok (.iaload, 1) := by decide +kernel
theorem dd_X11_claimGain_21 : decode Y_X11_claimGain.2.1 21 = .ok (.imul, 1) := by decide +kernel
theorem dd_X11_claimGain_22 : decode Y_X11_claimGain.2.1 22 = .ok (.aload_n 0, 1) := by decide +kernel
theorem dd_X11_claimGain_23 : decode Y_X11_claimGain.2.1 23 = .ok (.getfield 19, 3) := by decide +kernel
theorem dd_X11_claimGain_26 : decode Y_X11_claimGain.2.1 26 = .ok (.iload_n 2, 1) := by decide +kernel
theorem dd_X11_claimGain_27 : decode Y_X11_claimGain.2.1 27 = .ok (.aload_n 0, 1) := by decide +kernel
theorem dd_X11_claimGain_28 : decode Y_X11_claimGain.2.1 28 = .ok (.getfield 40, 3) := by decide +kernel
theorem dd_X11_claimGain_31 : decode Y_X11_claimGain.2.1 31 = .ok (.getfield 206, 3) := by decide +kernel
theorem dd_X11_claimGain_34 : decode Y_X11_claimGain.2.1 34 = .ok (.iload_n 1, 1) := by decide +kernel
theorem dd_X11_claimGain_35 : decode Y_X11_claimGain.2.1 35 = .ok (.iaload, 1) := by decide +kernel
theorem dd_X11_claimGain_36 : decode Y_X11_claimGain.2.1 36 = .ok (.invokevirtual 397, 3) := by decide +kernel
theorem dd_X11_claimGain_39 : decode Y_X11_claimGain.2.1 39 = .ok (.isub, 1) := by decide +kernel
theorem dd_X11_claimGain_40 : decode Y_X11_claimGain.2.1 40 = .ok (.ireturn, 1) := by decide +kernel
def F_X11_claimGain (t : Nat) (a1 : Int32) (a2 : Int32) (a3 : Int32) (M : zM) : zO := zit (a2 = a3) (zI 0 M) (zck (zin a2 8) (zck (zin a1 8) (zbI (F_X6_apart (zgr t 1) a2 (M (zgr (zgr t 4) 1) (zix a1)) M) (fun r1 M1 => zI ((10 * (M (zgr (zgr (zgr t 1) 4) 1) (zix a2))) - r1) M1))))
set_option maxHeartbeats 1000000 in
set_option maxRecDepth 20000 in
theorem ct_X11_claimGain (l : Launch) (hl : l.stackTraces = false) (G : zG) (t : Nat) (ht : zsh t = 11) (a1 : Int32) (a2 : Int32) (a3 : Int32) (M : zM) : zMt l G Y_X11_claimGain 9 [.ref (G.2.1 + t), .int a1, .int a2, .int a3] M (F_X11_claimGain t a1 a2 a3 M) := by
  refine zMt_of (by decide +kernel) (Nat.le_of_ble_eq_true rfl) ?_
  show zEv l G Y_X11_claimGain 9 0 0 [(0, .ref (G.2.1 + t)), (1, .int a1), (2, .int a2), (3, .int a3)] [] M (zit (a2 = a3) (zI 0 M) (zck (zin a2 8) (zck (zin a1 8) (zbI (F_X6_apart (zgr t 1) a2 (M (zgr (zgr t 4) 1) (zix a1)) M) (fun r1 M1 => zI ((10 * (M (zgr (zgr (zgr t 1) 4) 1) (zix a2))) - r1) M1)))))
  refine ev_iload_n dd_X11_claimGain_0 2 rfl ?_
  refine ev_iload_n dd_X11_claimGain_1 3 rfl ?_
  refine ev_lv (lv' := [(0, .ref (G.2.1 + t)), (1, .int a1), (2, .int a2)]) [0, 1, 2] rfl ?_
  refine ev_icmp_ne 7 dd_X11_claimGain_2 (by decide) ?_ ?_
  · refine ev_bipush (v := 10) dd_X11_claimGain_7 (by decide) ?_
    refine ev_aload_n dd_X11_claimGain_9 0 rfl ?_
    refine ev_getR gf_RX11_19 dd_X11_claimGain_10 ht (by decide) ?_
    refine ev_getR gf_RX11_172 dd_X11_claimGain_13 (zg_11_1 ht) (by decide) ?_
    refine ev_getR gf_RX11_176 dd_X11_claimGain_16 (zg_6_4 (zg_11_1 ht)) (by decide) ?_
    refine ev_iload_n dd_X11_claimGain_19 2 rfl ?_
    refine ev_iald dd_X11_claimGain_20 ((zg_9_1 (zg_6_4 (zg_11_1 ht))).1) ((zg_9_1 (zg_6_4 (zg_11_1 ht))).2) ?_
    refine ev_imul dd_X11_claimGain_21 ?_
    refine ev_aload_n dd_X11_claimGain_22 0 rfl ?_
    refine ev_getR gf_RX11_19 dd_X11_claimGain_23 ht (by decide) ?_
    refine ev_iload_n dd_X11_claimGain_26 2 rfl ?_
    refine ev_lv (lv' := [(0, .ref (G.2.1 + t)), (1, .int a1)]) [0, 1] rfl ?_
    refine ev_aload_n dd_X11_claimGain_27 0 rfl ?_
    refine ev_lv (lv' := [(1, .int a1)]) [1] rfl ?_
    refine ev_getR gf_RX11_40 dd_X11_claimGain_28 ht (by decide) ?_
    refine ev_getR gf_RX11_206 dd_X11_claimGain_31 (zg_11_4 ht) (by decide) ?_
    refine ev_iload_n dd_X11_claimGain_34 0 rfl ?_
    refine ev_lv (lv' := []) [] rfl ?_
    refine ev_iald dd_X11_claimGain_35 ((zg_10_1 (zg_11_4 ht)).1) ((zg_10_1 (zg_11_4 ht)).2) ?_
    refine ev_callVI (As := [.int a2, .int (M (zgr (zgr t 4) 1) (zix a1))]) cl_RX11_397 (ct_X6_apart l hl G (zgr t 1) (zg_11_1 ht) a2 (M (zgr (zgr t 4) 1) (zix a1)) M) dd_X11_claimGain_36 (zg_11_1 ht) (by decide) (Nat.le_of_ble_eq_true rfl) (Nat.le_of_ble_eq_true rfl) rfl rfl (fun r1 M1 => ?_)
    refine ev_isub dd_X11_claimGain_39 ?_
    exact ev_iret dd_X11_claimGain_40 rfl (Nat.le_of_ble_eq_true rfl) rfl
  · refine ev_lv (lv' := []) [] rfl ?_
    refine ev_iconst (v := 0) dd_X11_claimGain_5 (by decide) ?_
    exact ev_iret dd_X11_claimGain_6 rfl (Nat.le_of_ble_eq_true rfl) rfl
/-! X11_isBestClaim -/
theorem dd_X11_isBestClaim_0 : decode Y_X11_isBestClaim.2.1 0 = .ok (.aload_n 0, 1) := by decide +kernel
theorem dd_X11_isBestClaim_1 : decode Y_X11_isBestClaim.2.1 1 = .ok (.iload_n 1, 1) := by decide +kernel
theorem dd_X11_isBestClaim_2 : decode Y_X11_isBestClaim.2.1 2 = .ok (.iload_n 2, 1) := by decide +kernel
theorem dd_X11_isBestClaim_3 : decode Y_X11_isBestClaim.2.1 3 = .ok (.iload_n 3, 1) := by decide +kernel
theorem dd_X11_isBestClaim_4 : decode Y_X11_isBestClaim.2.1 4 = .ok (.invokevirtual 394, 3) := by decide +kernel
theorem dd_X11_isBestClaim_7 : decode Y_X11_isBestClaim.2.1 7 = .ok (.istore 4, 2) := by decide +kernel
theorem dd_X11_isBestClaim_9 : decode Y_X11_isBestClaim.2.1 9 = .ok (.iconst 0, 1) := by decide +kernel
theorem dd_X11_isBestClaim_10 : decode Y_X11_isBestClaim.2.1 10 = .ok (.istore 5, 2) := by decide +kernel
theorem dd_X11_isBestClaim_12 : decode Y_X11_isBestClaim.2.1 12 = .ok (.iload 5, 2) := by decide +kernel
theorem dd_X11_isBestClaim_14 : decode Y_X11_isBestClaim.2.1 14 = .ok (.aload_n 0, 1) := by decide +kernel
theorem dd_X11_isBestClaim_15 : decode Y_X11_isBestClaim.2.1 15 = .ok (.getfield 19, 3) := by decide +kernel
theorem dd_X11_isBestClaim_18 : decode Y_X11_isBestClaim.2.1 18 = .ok (.getfield 142, 3) := by decide +kernel
theorem dd_X11_isBestClaim_21 : decode Y_X11_isBestClaim.2.1 21 = .ok (.if_icmp .ge 24, 3) := by decide +kernel
theorem dd_X11_isBestClaim_24 : decode Y_X11_isBestClaim.2.1 24 = .ok (.aload_n 0, 1) := by decide +kernel
theorem dd_X11_isBestClaim_25 : decode Y_X11_isBestClaim.2.1 25 = .ok (.iload_n 1, 1) := by decide +kernel
theorem dd_X11_isBestClaim_26 : decode Y_X11_isBestClaim.2.1 26 = .ok (.iload 5, 2) := by decide +kernel
theorem dd_X11_isBestClaim_28 : decode Y_X11_isBestClaim.2.1 28 = .ok (.iload_n 3, 1) := by decide +kernel
theorem dd_X11_isBestClaim_29 : decode Y_X11_isBestClaim.2.1 29 = .ok (.invokevirtual 394, 3) := by decide +kernel
theorem dd_X11_isBestClaim_32 : decode Y_X11_isBestClaim.2.1 32 = .ok (.iload 4, 2) := by decide +kernel
theorem dd_X11_isBestClaim_34 : decode Y_X11_isBestClaim.2.1 34 = .ok (.if_icmp .le 5, 3) := by decide +kernel
theorem dd_X11_isBestClaim_37 : decode Y_X11_isBestClaim.2.1 37 = .ok (.iconst 0, 1) := by decide +kernel
theorem dd_X11_isBestClaim_38 : decode Y_X11_isBestClaim.2.1 38 = .ok (.ireturn, 1) := by decide +kernel
theorem dd_X11_isBestClaim_39 : decode Y_X11_isBestClaim.2.1 39 = .ok (.iinc 5 1, 3) := by decide +kernel
theorem dd_X11_isBestClaim_42 : decode Y_X11_isBestClaim.2.1 42 = .ok (.goto (-30), 3) := by decide +kernel
theorem dd_X11_isBestClaim_45 : decode Y_X11_isBestClaim.2.1 45 = .ok (.iconst 1, 1) := by decide +kernel
theorem dd_X11_isBestClaim_46 : decode Y_X11_isBestClaim.2.1 46 = .ok (.ireturn, 1) := by decide +kernel
def F_X11_isBestClaim_L12 (x0 : Nat) (x1 : Int32) (x3 : Int32) (x4 : Int32) (K45 : zM → zO) : Nat → Int32 → zM → zO
  | 0, _, _ => none
  | n + 1, x5, M => zit ((M (zgr x0 1) 0) ≤ x5) (K45 M) (zbI (F_X11_claimGain x0 x1 x5 x3 M) (fun r2 M2 => zit (r2 ≤ x4) (F_X11_isBestClaim_L12 x0 x1 x3 x4 K45 n (x5 + 1) M2) (zck (zbo 0) (zI 0 M2))))
def F_X11_isBestClaim (t : Nat) (a1 : Int32) (a2 : Int32) (a3 : Int32) (M : zM) : zO := zbI (F_X11_claimGain t a1 a2 a3 M) (fun r1 M1 => F_X11_isBestClaim_L12 t a1 a3 r1 (fun  (M3 : zM) => zck (zbo 1) (zI 1 M3)) zN 0 M1)
set_option maxHeartbeats 1000000 in
set_option maxRecDepth 20000 in
theorem ct_X11_isBestClaim_L12 (l : Launch) (hl : l.stackTraces = false) (G : zG) (x0 : Nat) (hx0 : zsh x0 = 11) (x1 : Int32) (x3 : Int32) (x4 : Int32) (K45 : zM → zO) (hK45 : ∀  (M : zM), zEv l G Y_X11_isBestClaim 10 0 45 [] [] M (K45 M)) : ∀ (n : Nat) (x5 : Int32) (M : zM), zEv l G Y_X11_isBestClaim 10 0 12 [(0, .ref (G.2.1 + x0)), (1, .int x1), (3, .int x3), (4, .int x4), (5, .int x5)] [] M (F_X11_isBestClaim_L12 x0 x1 x3 x4 K45 n x5 M) := by
  intro n
  induction n with
  | zero => intro x5 M; exact ev_none
  | succ n ih =>
    intro x5 M
    show zEv l G Y_X11_isBestClaim 10 0 12 [(0, .ref (G.2.1 + x0)), (1, .int x1), (3, .int x3), (4, .int x4), (5, .int x5)] [] M (zit ((M (zgr x0 1) 0) ≤ x5) (K45 M) (zbI (F_X11_claimGain x0 x1 x5 x3 M) (fun r2 M2 => zit (r2 ≤ x4) (F_X11_isBestClaim_L12 x0 x1 x3 x4 K45 n (x5 + 1) M2) (zck (zbo 0) (zI 0 M2)))))
    refine ev_iload dd_X11_isBestClaim_12 4 rfl ?_
    refine ev_aload_n dd_X11_isBestClaim_14 0 rfl ?_
    refine ev_getR gf_RX11_19 dd_X11_isBestClaim_15 hx0 (by decide) ?_
    refine ev_getI gf_RX11_142 dd_X11_isBestClaim_18 (zg_11_1 hx0) (by decide) ?_
    refine ev_icmp_ge 45 dd_X11_isBestClaim_21 (by decide) ?_ ?_
    · refine ev_lv (lv' := []) [] rfl ?_
      exact hK45 _
    · refine ev_aload_n dd_X11_isBestClaim_24 0 rfl ?_
      refine ev_iload_n dd_X11_isBestClaim_25 1 rfl ?_
      refine ev_iload dd_X11_isBestClaim_26 4 rfl ?_
      refine ev_iload_n dd_X11_isBestClaim_28 2 rfl ?_
      refine ev_callVI (As := [.int x1, .int x5, .int x3]) cl_RX11_394 (ct_X11_claimGain l hl G x0 hx0 x1 x5 x3 M) dd_X11_isBestClaim_29 hx0 (by decide) (Nat.le_of_ble_eq_true rfl) (Nat.le_of_ble_eq_true rfl) rfl rfl (fun r2 M2 => ?_)
      refine ev_iload dd_X11_isBestClaim_32 3 rfl ?_
      refine ev_icmp_le 39 dd_X11_isBestClaim_34 (by decide) ?_ ?_
      · refine ev_iinc (j := 4) (v := 1) (lv' := [(0, .ref (G.2.1 + x0)), (1, .int x1), (3, .int x3), (4, .int x4), (5, .int (x5 + 1))]) [1, 2, 3, 4, 0] dd_X11_isBestClaim_39 rfl (by decide) (by decide) rfl ?_
        refine ev_goto 12 dd_X11_isBestClaim_42 (by decide) ?_
        exact ih _ _
      · refine ev_lv (lv' := []) [] rfl ?_
        refine ev_iconst (v := 0) dd_X11_isBestClaim_37 (by decide) ?_
        exact ev_zret dd_X11_isBestClaim_38 rfl (Nat.le_of_ble_eq_true rfl) rfl
set_option maxHeartbeats 1000000 in
set_option maxRecDepth 20000 in
theorem ct_X11_isBestClaim (l : Launch) (hl : l.stackTraces = false) (G : zG) (t : Nat) (ht : zsh t = 11) (a1 : Int32) (a2 : Int32) (a3 : Int32) (M : zM) : zMt l G Y_X11_isBestClaim 10 [.ref (G.2.1 + t), .int a1, .int a2, .int a3] M (F_X11_isBestClaim t a1 a2 a3 M) := by
  refine zMt_of (by decide +kernel) (Nat.le_of_ble_eq_true rfl) ?_
  show zEv l G Y_X11_isBestClaim 10 0 0 [(0, .ref (G.2.1 + t)), (1, .int a1), (2, .int a2), (3, .int a3)] [] M (zbI (F_X11_claimGain t a1 a2 a3 M) (fun r1 M1 => F_X11_isBestClaim_L12 t a1 a3 r1 (fun  (M3 : zM) => zck (zbo 1) (zI 1 M3)) zN 0 M1))
  refine ev_aload_n dd_X11_isBestClaim_0 0 rfl ?_
  refine ev_iload_n dd_X11_isBestClaim_1 1 rfl ?_
  refine ev_iload_n dd_X11_isBestClaim_2 2 rfl ?_
  refine ev_lv (lv' := [(0, .ref (G.2.1 + t)), (1, .int a1), (3, .int a3)]) [0, 1, 3] rfl ?_
  refine ev_iload_n dd_X11_isBestClaim_3 2 rfl ?_
  refine ev_callVI (As := [.int a1, .int a2, .int a3]) cl_RX11_394 (ct_X11_claimGain l hl G t ht a1 a2 a3 M) dd_X11_isBestClaim_4 ht (by decide) (Nat.le_of_ble_eq_true rfl) (Nat.le_of_ble_eq_true rfl) rfl rfl (fun r1 M1 => ?_)
  refine ev_istore (i := 4) (lv' := [(0, .ref (G.2.1 + t)), (1, .int a1), (3, .int a3), (4, .int r1)]) [1, 2, 3, 0] dd_X11_isBestClaim_7 (by decide) rfl ?_
  refine ev_iconst (v := 0) dd_X11_isBestClaim_9 (by decide) ?_
  refine ev_istore (i := 5) (lv' := [(0, .ref (G.2.1 + t)), (1, .int a1), (3, .int a3), (4, .int r1), (5, .int 0)]) [1, 2, 3, 4, 0] dd_X11_isBestClaim_10 (by decide) rfl ?_
  refine ct_X11_isBestClaim_L12 l hl G t ht a1 a3 r1 _ (fun M3 => ?_) zN _ _
  refine ev_iconst (v := 1) dd_X11_isBestClaim_45 (by decide) ?_
  exact ev_zret dd_X11_isBestClaim_46 rfl (Nat.le_of_ble_eq_true rfl) rfl
/-! X11_needFirstOrCount -/
theorem dd_X11_needFirstOrCount_0 : decode Y_X11_needFirstOrCount.2.1 0 = .ok (.iload_n 0, 1) := by decide +kernel
theorem dd_X11_needFirstOrCount_1 : decode Y_X11_needFirstOrCount.2.1 1 = .ok (.ifCond .eq 19, 3) := by decide +kernel
theorem dd_X11_needFirstOrCount_4 : decode Y_X11_needFirstOrCount.2.1 4 = .ok (.iload_n 0, 1) := by decide +kernel
theorem dd_X11_needFirstOrCount_5 : decode Y_X11_needFirstOrCount.2.1 5 = .ok (.iconst 1, 1) := by decide +kernel
theorem dd_X11_needFirstOrCount_6 : decode Y_X11_needFirstOrCount.2.1 6 = .ok (.if_icmp .eq 14, 3) := by decide +kernel
theorem dd_X11_needFirstOrCount_9 : decode Y_X11_needFirstOrCount.2.1 9 = .ok (.new 164, 3) := by decide +kernel
theorem dd_X11_needFirstOrCount_12 : decode Y_X11_needFirstOrCount.2.1 12 = .ok (.dup, 1) := by decide +kernel
theorem dd_X11_needFirstOrCount_13 : decode Y_X11_needFirstOrCount.2.1 13 = .ok (.ldc_w 371, 3) := by decide +kernel
theorem dd_X11_needFirstOrCount_16 : decode Y_X11_needFirstOrCount.2.1 16 = .ok (.invokespecial 168, 3) := by decide +kernel
theorem dd_X11_needFirstOrCount_19 : decode Y_X11_needFirstOrCount.2.1 19 = .ok (.athrow, 1) := by decide +kernel
theorem dd_X11_needFirstOrCount_20 : decode Y_X11_needFirstOrCount.2.1 20 = .ok (.return_, 1) := by decide +kernel
def F_X11_needFirstOrCount (a0 : Int32) (M : zM) : zO := zjo (fun  (M1 : zM) => zV M1) (fun (k1 : zM → zO) => zit (a0 = 0) (k1 M) (zit (a0 = 1) (k1 M) (zE "java/util/NoSuchElementException" M)))
set_option maxHeartbeats 1000000 in
set_option maxRecDepth 20000 in
theorem ct_X11_needFirstOrCount (l : Launch) (hl : l.stackTraces = false) (G : zG) (a0 : Int32) (M : zM) : zMt l G Y_X11_needFirstOrCount 1 [.int a0] M (F_X11_needFirstOrCount a0 M) := by
  refine zMt_of (by decide +kernel) (Nat.le_of_ble_eq_true rfl) ?_
  show zEv l G Y_X11_needFirstOrCount 1 0 0 [(0, .int a0)] [] M (zjo (fun  (M1 : zM) => zV M1) (fun (k1 : zM → zO) => zit (a0 = 0) (k1 M) (zit (a0 = 1) (k1 M) (zE "java/util/NoSuchElementException" M))))
  refine ev_iload_n dd_X11_needFirstOrCount_0 0 rfl ?_
  refine ev_jo (fun (k1 : zM → zO) => ∀  (M1 : zM), zEv l G Y_X11_needFirstOrCount 1 0 20 [] [] M1 (k1 M1)) ?_ (fun k1 hk1 => ?_)
  · intro M1
    exact ev_vret dd_X11_needFirstOrCount_20 rfl (Nat.le_of_ble_eq_true rfl) rfl
  · refine ev_if_eq 20 dd_X11_needFirstOrCount_1 (by decide) ?_ ?_
    · refine ev_lv (lv' := []) [] rfl ?_
      exact hk1 _
    · refine ev_iload_n dd_X11_needFirstOrCount_4 0 rfl ?_
      refine ev_lv (lv' := []) [] rfl ?_
      refine ev_iconst (v := 1) dd_X11_needFirstOrCount_5 (by decide) ?_
      refine ev_icmp_eq 20 dd_X11_needFirstOrCount_6 (by decide) ?_ ?_
      · exact hk1 _
      · exact ev_throwNW hl zTh_NSE sr_RX11_371 dd_X11_needFirstOrCount_9 dd_X11_needFirstOrCount_12 dd_X11_needFirstOrCount_13 dd_X11_needFirstOrCount_16 dd_X11_needFirstOrCount_19 (Nat.le_of_ble_eq_true rfl) (Nat.le_of_ble_eq_true rfl)
/-! X11_needUnlike -/
theorem dd_X11_needUnlike_0 : decode Y_X11_needUnlike.2.1 0 = .ok (.iload_n 0, 1) := by decide +kernel
theorem dd_X11_needUnlike_1 : decode Y_X11_needUnlike.2.1 1 = .ok (.iload_n 1, 1) := by decide +kernel
theorem dd_X11_needUnlike_2 : decode Y_X11_needUnlike.2.1 2 = .ok (.if_icmp .ne 14, 3) := by decide +kernel
theorem dd_X11_needUnlike_5 : decode Y_X11_needUnlike.2.1 5 = .ok (.new 119, 3) := by decide +kernel
theorem dd_X11_needUnlike_8 : decode Y_X11_needUnlike.2.1 8 = .ok (.dup, 1) := by decide +kernel
theorem dd_X11_needUnlike_9 : decode Y_X11_needUnlike.2.1 9 = .ok (.ldc_w 369, 3) := by decide +kernel
theorem dd_X11_needUnlike_12 : decode Y_X11_needUnlike.2.1 12 = .ok (.invokespecial 123, 3) := by decide +kernel
theorem dd_X11_needUnlike_15 : decode Y_X11_needUnlike.2.1 15 = .ok (.athrow, 1) := by decide +kernel
theorem dd_X11_needUnlike_16 : decode Y_X11_needUnlike.2.1 16 = .ok (.return_, 1) := by decide +kernel
def F_X11_needUnlike (a0 : Int32) (a1 : Int32) (M : zM) : zO := zit (a0 = a1) (zE "java/lang/IllegalArgumentException" M) (zV M)
set_option maxHeartbeats 1000000 in
set_option maxRecDepth 20000 in
theorem ct_X11_needUnlike (l : Launch) (hl : l.stackTraces = false) (G : zG) (a0 : Int32) (a1 : Int32) (M : zM) : zMt l G Y_X11_needUnlike 1 [.int a0, .int a1] M (F_X11_needUnlike a0 a1 M) := by
  refine zMt_of (by decide +kernel) (Nat.le_of_ble_eq_true rfl) ?_
  show zEv l G Y_X11_needUnlike 1 0 0 [(0, .int a0), (1, .int a1)] [] M (zit (a0 = a1) (zE "java/lang/IllegalArgumentException" M) (zV M))
  refine ev_iload_n dd_X11_needUnlike_0 0 rfl ?_
  refine ev_lv (lv' := [(1, .int a1)]) [1] rfl ?_
  refine ev_iload_n dd_X11_needUnlike_1 0 rfl ?_
  refine ev_lv (lv' := []) [] rfl ?_
  refine ev_icmp_ne 16 dd_X11_needUnlike_2 (by decide) ?_ ?_
  · exact ev_vret dd_X11_needUnlike_16 rfl (Nat.le_of_ble_eq_true rfl) rfl
  · exact ev_throwSW hl zTh_IAE sr_RX11_369 dd_X11_needUnlike_5 dd_X11_needUnlike_8 dd_X11_needUnlike_9 dd_X11_needUnlike_12 dd_X11_needUnlike_15 (Nat.le_of_ble_eq_true rfl) (Nat.le_of_ble_eq_true rfl)
/-! X11_needTwo -/
theorem dd_X11_needTwo_0 : decode Y_X11_needTwo.2.1 0 = .ok (.aload_n 0, 1) := by decide +kernel
theorem dd_X11_needTwo_1 : decode Y_X11_needTwo.2.1 1 = .ok (.iload_n 1, 1) := by decide +kernel
theorem dd_X11_needTwo_2 : decode Y_X11_needTwo.2.1 2 = .ok (.invokevirtual 203, 3) := by decide +kernel
theorem dd_X11_needTwo_5 : decode Y_X11_needTwo.2.1 5 = .ok (.aload_n 0, 1) := by decide +kernel
theorem dd_X11_needTwo_6 : decode Y_X11_needTwo.2.1 6 = .ok (.iload_n 2, 1) := by decide +kernel
theorem dd_X11_needTwo_7 : decode Y_X11_needTwo.2.1 7 = .ok (.invokevirtual 203, 3) := by decide +kernel
theorem dd_X11_needTwo_10 : decode Y_X11_needTwo.2.1 10 = .ok (.iload_n 1, 1) := by decide +kernel
theorem dd_X11_needTwo_11 : decode Y_X11_needTwo.2.1 11 = .ok (.iload_n 2, 1) := by decide +kernel
theorem dd_X11_needTwo_12 : decode Y_X11_needTwo.2.1 12 = .ok (.invokestatic 297, 3) := by decide +kernel
theorem dd_X11_needTwo_15 : decode Y_X11_needTwo.2.1 15 = .ok (.return_, 1) := by decide +kernel
def F_X11_needTwo (t : Nat) (a1 : Int32) (a2 : Int32) (M : zM) : zO := zbV (F_X11_needIsle t a1 M) (fun M1 => zbV (F_X11_needIsle t a2 M1) (fun M2 => zbV (F_X11_needUnlike a1 a2 M2) (fun M3 => zV M3)))
set_option maxHeartbeats 1000000 in
set_option maxRecDepth 20000 in
theorem ct_X11_needTwo (l : Launch) (hl : l.stackTraces = false) (G : zG) (t : Nat) (ht : zsh t = 11) (a1 : Int32) (a2 : Int32) (M : zM) : zMt l G Y_X11_needTwo 2 [.ref (G.2.1 + t), .int a1, .int a2] M (F_X11_needTwo t a1 a2 M) := by
  refine zMt_of (by decide +kernel) (Nat.le_of_ble_eq_true rfl) ?_
  show zEv l G Y_X11_needTwo 2 0 0 [(0, .ref (G.2.1 + t)), (1, .int a1), (2, .int a2)] [] M (zbV (F_X11_needIsle t a1 M) (fun M1 => zbV (F_X11_needIsle t a2 M1) (fun M2 => zbV (F_X11_needUnlike a1 a2 M2) (fun M3 => zV M3))))
  refine ev_aload_n dd_X11_needTwo_0 0 rfl ?_
  refine ev_iload_n dd_X11_needTwo_1 1 rfl ?_
  refine ev_callVV (As := [.int a1]) cl_RX11_203 (ct_X11_needIsle l hl G t ht a1 M) dd_X11_needTwo_2 ht (by decide) (Nat.le_of_ble_eq_true rfl) (Nat.le_of_ble_eq_true rfl) rfl rfl (fun M1 => ?_)
  refine ev_aload_n dd_X11_needTwo_5 0 rfl ?_
  refine ev_lv (lv' := [(1, .int a1), (2, .int a2)]) [1, 2] rfl ?_
  refine ev_iload_n dd_X11_needTwo_6 1 rfl ?_
  refine ev_callVV (As := [.int a2]) cl_RX11_203 (ct_X11_needIsle l hl G t ht a2 M1) dd_X11_needTwo_7 ht (by decide) (Nat.le_of_ble_eq_true rfl) (Nat.le_of_ble_eq_true rfl) rfl rfl (fun M2 => ?_)
  refine ev_iload_n dd_X11_needTwo_10 0 rfl ?_
  refine ev_lv (lv' := [(2, .int a2)]) [1] rfl ?_
  refine ev_iload_n dd_X11_needTwo_11 0 rfl ?_
  refine ev_lv (lv' := []) [] rfl ?_
  refine ev_callSV (As := [.int a1, .int a2]) cl_RX11_297 (ct_X11_needUnlike l hl G a1 a2 M2) dd_X11_needTwo_12 (by decide) (Nat.le_of_ble_eq_true rfl) (Nat.le_of_ble_eq_true rfl) rfl rfl (fun M3 => ?_)
  exact ev_vret dd_X11_needTwo_15 rfl (Nat.le_of_ble_eq_true rfl) rfl
/-! X11_clerks -/
theorem dd_X11_clerks_0 : decode Y_X11_clerks.2.1 0 = .ok (.iload_n 3, 1) := by decide +kernel
theorem dd_X11_clerks_1 : decode Y_X11_clerks.2.1 1 = .ok (.invokestatic 245, 3) := by decide +kernel
theorem dd_X11_clerks_4 : decode Y_X11_clerks.2.1 4 = .ok (.aload_n 0, 1) := by decide +kernel
theorem dd_X11_clerks_5 : decode Y_X11_clerks.2.1 5 = .ok (.iload_n 1, 1) := by decide +kernel
theorem dd_X11_clerks_6 : decode Y_X11_clerks.2.1 6 = .ok (.iload_n 2, 1) := by decide +kernel
theorem dd_X11_clerks_7 : decode Y_X11_clerks.2.1 7 = .ok (.invokevirtual 209, 3) := by decide +kernel
theorem dd_X11_clerks_10 : decode Y_X11_clerks.2.1 10 = .ok (.iconst 0, 1) := by decide +kernel
theorem dd_X11_clerks_11 : decode Y_X11_clerks.2.1 11 = .ok (.istore 4, 2) := by decide +kernel
theorem dd_X11_clerks_13 : decode Y_X11_clerks.2.1 13 = .ok (.iconst (-1), 1) := by decide +kernel
theorem dd_X11_clerks_14 : decode Y_X11_clerks.2.1 14 = .ok (.istore 5, 2) := by decide +kernel
theorem dd_X11_clerks_16 : decode Y_X11_clerks.2.1 16 = .ok (.iconst 0, 1) := by decide +kernel
theorem dd_X11_clerks_17 : decode Y_X11_clerks.2.1 17 = .ok (.istore 6, 2) := by decide +kernel
theorem dd_X11_clerks_19 : decode Y_X11_clerks.2.1 19 = .ok (.iload 6, 2) := by decide +kernel
theorem dd_X11_clerks_21 : decode Y_X11_clerks.2.1 21 = .ok (.aload_n 0, 1) := by decide +kernel
theorem dd_X11_clerks_22 : decode Y_X11_clerks.2.1 22 = .ok (.getfield 19, 3) := by decide +kernel
theorem dd_X11_clerks_25 : decode Y_X11_clerks.2.1 25 = .ok (.getfield 142, 3) := by decide +kernel
theorem dd_X11_clerks_28 : decode Y_X11_clerks.2.1 28 = .ok (.if_icmp .ge 78, 3) := by decide +kernel
theorem dd_X11_clerks_31 : decode Y_X11_clerks.2.1 31 = .ok (.iconst 0, 1) := by decide +kernel
theorem dd_X11_clerks_32 : decode Y_X11_clerks.2.1 32 = .ok (.istore 7, 2) := by decide +kernel
theorem dd_X11_clerks_34 : decode Y_X11_clerks.2.1 34 = .ok (.iload 7, 2) := by decide +kernel
theorem dd_X11_clerks_36 : decode Y_X11_clerks.2.1 36 = .ok (.aload_n 0, 1) := by decide +kernel
theorem dd_X11_clerks_37 : decode Y_X11_clerks.2.1 37 = .ok (.getfield 19, 3) := by decide +kernel
theorem dd_X11_clerks_40 : decode Y_X11_clerks.2.1 40 = .ok (.getfield 142, 3) := by decide +kernel
theorem dd_X11_clerks_43 : decode Y_X11_clerks.2.1 43 = .ok (.if_icmp .ge 57, 3) := by decide +kernel
theorem dd_X11_clerks_46 : decode Y_X11_clerks.2.1 46 = .ok (.aload_n 0, 1) := by decide +kernel
theorem dd_X11_clerks_47 : decode Y_X11_clerks.2.1 47 = .ok (.iload_n 1, 1) := by decide +kernel
theorem dd_X11_clerks_48 : decode Y_X11_clerks.2.1 48 = .ok (.iload 6, 2) := by decide +kernel
theorem dd_X11_clerks_50 : decode Y_X11_clerks.2.1 50 = .ok (.iload 7, 2) := by decide +kernel
theorem dd_X11_clerks_52 : decode Y_X11_clerks.2.1 52 = .ok (.invokevirtual 350, 3) := by decide +kernel
theorem dd_X11_clerks_55 : decode Y_X11_clerks.2.1 55 = .ok (.ifCond .eq 39, 3) := by decide +kernel
theorem dd_X11_clerks_58 : decode Y_X11_clerks.2.1 58 = .ok (.aload_n 0, 1) := by decide +kernel
theorem dd_X11_clerks_59 : decode Y_X11_clerks.2.1 59 = .ok (.iload_n 2, 1) := by decide +kernel
theorem dd_X11_clerks_60 : decode Y_X11_clerks.2.1 60 = .ok (.iload 7, 2) := by decide +kernel
theorem dd_X11_clerks_62 : decode Y_X11_clerks.2.1 62 = .ok (.iload 6, 2) := by decide +kernel
theorem dd_X11_clerks_64 : decode Y_X11_clerks.2.1 64 = .ok (.invokevirtual 350, 3) := by decide +kernel
theorem dd_X11_clerks_67 : decode Y_X11_clerks.2.1 67 = .ok (.ifCond .eq 27, 3) := by decide +kernel
theorem dd_X11_clerks_70 : decode Y_X11_clerks.2.1 70 = .ok (.iinc 4 1, 3) := by decide +kernel
theorem dd_X11_clerks_73 : decode Y_X11_clerks.2.1 73 = .ok (.iload 5, 2) := by decide +kernel
theorem dd_X11_clerks_75 : decode Y_X11_clerks.2.1 75 = .ok (.iconst (-1), 1) := by decide +kernel
theorem dd_X11_clerks_76 : decode Y_X11_clerks.2.1 76 = .ok (.if_icmp .ne 14, 3) := by decide +kernel
theorem dd_X11_clerks_79 : decode Y_X11_clerks.2.1 79 = .ok (.bipush 10, 2) := by decide +kernel
theorem dd_X11_clerks_81 : decode Y_X11_clerks.2.1 81 = .ok (.iload 6, 2) := by decide +kernel
theorem dd_X11_clerks_83 : decode Y_X11_clerks.2.1 83 = .ok (.imul, 1) := by decide +kernel
theorem dd_X11_clerks_84 : decode Y_X11_clerks.2.1 84 = .ok (.iload 7, 2) := by decide +kernel
theorem dd_X11_clerks_86 : decode Y_X11_clerks.2.1 86 = .ok (.iadd, 1) := by decide +kernel
theorem dd_X11_clerks_87 : decode Y_X11_clerks.2.1 87 = .ok (.goto 5, 3) := by decide +kernel
theorem dd_X11_clerks_90 : decode Y_X11_clerks.2.1 90 = .ok (.iload 5, 2) := by decide +kernel
theorem dd_X11_clerks_92 : decode Y_X11_clerks.2.1 92 = .ok (.istore 5, 2) := by decide +kernel
theorem dd_X11_clerks_94 : decode Y_X11_clerks.2.1 94 = .ok (.iinc 7 1, 3) := by decide +kernel
theorem dd_X11_clerks_97 : decode Y_X11_clerks.2.1 97 = .ok (.goto (-63), 3) := by decide +kernel
theorem dd_X11_clerks_100 : decode Y_X11_clerks.2.1 100 = .ok (.iinc 6 1, 3) := by decide +kernel
theorem dd_X11_clerks_103 : decode Y_X11_clerks.2.1 103 = .ok (.goto (-84), 3) := by decide +kernel
theorem dd_X11_clerks_106 : decode Y_X11_clerks.2.1 106 = .ok (.iload_n 3, 1) := by decide +kernel
theorem dd_X11_clerks_107 : decode Y_X11_clerks.2.1 107 = .ok (.ifCond .ne 8, 3) := by decide +kernel
theorem dd_X11_clerks_110 : decode Y_X11_clerks.2.1 110 = .ok (.iload 4, 2) := by decide +kernel
theorem dd_X11_clerks_112 : decode Y_X11_clerks.2.1 112 = .ok (.goto 5, 3) := by decide +kernel
theorem dd_X11_clerks_115 : decode Y_X11_clerks.2.1 115 = .ok (.iload 5, 2) := by decide +kernel
theorem dd_X11_clerks_117 : decode Y_X11_clerks.2.1 117 = .ok (.ireturn, 1) := by decide +kernel
def F_X11_clerks_L34 (x0 : Nat) (x1 : Int32) (x2 : Int32) (x3 : Int32) (x6 : Int32) (K100 : Int32 → Int32 → zM → zO) : Nat → Int32 → Int32 → Int32 → zM → zO
  | 0, _, _, _, _ => none
  | n + 1, x4, x5, x7, M => zit ((M (zgr x0 1) 0) ≤ x7) (K100 x4 x5 M) (zbI (F_X11_isBestClaim x0 x1 x6 x7 M) (fun r1 M3 => zjo (fun (w2 : Int32) (w3 : Int32) (M6 : zM) => F_X11_clerks_L34 x0 x1 x2 x3 x6 K100 n w2 w3 (x7 + 1) M6) (fun (k1 : Int32 → Int32 → zM → zO) => zit (r1 = 0) (k1 x4 x5 M3) (zbI (F_X11_isBestClaim x0 x2 x7 x6 M3) (fun r2 M4 => zit (r2 = 0) (k1 x4 x5 M4) (zjo (fun (w1 : Int32) (M5 : zM) => k1 (x4 + 1) w1 M5) (fun (k2 : Int32 → zM → zO) => zit (x5 = (-1)) (k2 ((10 * x6) + x7) M4) (k2 x5 M4))))))))
def F_X11_clerks_L19 (x0 : Nat) (x1 : Int32) (x2 : Int32) (x3 : Int32) (K106 : Int32 → Int32 → zM → zO) : Nat → Int32 → Int32 → Int32 → zM → zO
  | 0, _, _, _, _ => none
  | n + 1, x4, x5, x6, M => zit ((M (zgr x0 1) 0) ≤ x6) (K106 x4 x5 M) (F_X11_clerks_L34 x0 x1 x2 x3 x6 (fun (y1 : Int32) (y2 : Int32) (M7 : zM) => F_X11_clerks_L19 x0 x1 x2 x3 K106 n y1 y2 (x6 + 1) M7) zN x4 x5 0 M)
def F_X11_clerks (t : Nat) (a1 : Int32) (a2 : Int32) (a3 : Int32) (M : zM) : zO := zbV (F_X11_needFirstOrCount a3 M) (fun M1 => zbV (F_X11_needTwo t a1 a2 M1) (fun M2 => F_X11_clerks_L19 t a1 a2 a3 (fun (y3 : Int32) (y4 : Int32) (M8 : zM) => zjo (fun (w4 : Int32) (M9 : zM) => zI w4 M9) (fun (k3 : Int32 → zM → zO) => zit (a3 = 0) (k3 y3 M8) (k3 y4 M8))) zN 0 (-1) 0 M2))
set_option maxHeartbeats 1000000 in
set_option maxRecDepth 20000 in
theorem ct_X11_clerks_L34 (l : Launch) (hl : l.stackTraces = false) (G : zG) (x0 : Nat) (hx0 : zsh x0 = 11) (x1 : Int32) (x2 : Int32) (x3 : Int32) (x6 : Int32) (K100 : Int32 → Int32 → zM → zO) (hK100 : ∀ (x4 : Int32) (x5 : Int32) (M : zM), zEv l G Y_X11_clerks 11 4 100 [(0, .ref (G.2.1 + x0)), (1, .int x1), (2, .int x2), (3, .int x3), (4, .int x4), (5, .int x5), (6, .int x6)] [] M (K100 x4 x5 M)) : ∀ (n : Nat) (x4 : Int32) (x5 : Int32) (x7 : Int32) (M : zM), zEv l G Y_X11_clerks 11 4 34 [(0, .ref (G.2.1 + x0)), (1, .int x1), (2, .int x2), (3, .int x3), (4, .int x4), (5, .int x5), (6, .int x6), (7, .int x7)] [] M (F_X11_clerks_L34 x0 x1 x2 x3 x6 K100 n x4 x5 x7 M) := by
  intro n
  induction n with
  | zero => intro x4 x5 x7 M; exact ev_none
  | succ n ih =>
    intro x4 x5 x7 M
    show zEv l G Y_X11_clerks 11 4 34 [(0, .ref (G.2.1 + x0)), (1, .int x1), (2, .int x2), (3, .int x3), (4, .int x4), (5, .int x5), (6, .int x6), (7, .int x7)] [] M (zit ((M (zgr x0 1) 0) ≤ x7) (K100 x4 x5 M) (zbI (F_X11_isBestClaim x0 x1 x6 x7 M) (fun r1 M3 => zjo (fun (w2 : Int32) (w3 : Int32) (M6 : zM) => F_X11_clerks_L34 x0 x1 x2 x3 x6 K100 n w2 w3 (x7 + 1) M6) (fun (k1 : Int32 → Int32 → zM → zO) => zit (r1 = 0) (k1 x4 x5 M3) (zbI (F_X11_isBestClaim x0 x2 x7 x6 M3) (fun r2 M4 => zit (r2 = 0) (k1 x4 x5 M4) (zjo (fun (w1 : Int32) (M5 : zM) => k1 (x4 + 1) w1 M5) (fun (k2 : Int32 → zM → zO) => zit (x5 = (-1)) (k2 ((10 * x6) + x7) M4) (k2 x5 M4)))))))))
    refine ev_iload dd_X11_clerks_34 7 rfl ?_
    refine ev_aload_n dd_X11_clerks_36 0 rfl ?_
    refine ev_getR gf_RX11_19 dd_X11_clerks_37 hx0 (by decide) ?_
    refine ev_getI gf_RX11_142 dd_X11_clerks_40 (zg_11_1 hx0) (by decide) ?_
    refine ev_icmp_ge 100 dd_X11_clerks_43 (by decide) ?_ ?_
    · refine ev_lv (lv' := [(0, .ref (G.2.1 + x0)), (1, .int x1), (2, .int x2), (3, .int x3), (4, .int x4), (5, .int x5), (6, .int x6)]) [0, 1, 2, 3, 4, 5, 6] rfl ?_
      exact hK100 _ _ _
    · refine ev_aload_n dd_X11_clerks_46 0 rfl ?_
      refine ev_iload_n dd_X11_clerks_47 1 rfl ?_
      refine ev_iload dd_X11_clerks_48 6 rfl ?_
      refine ev_iload dd_X11_clerks_50 7 rfl ?_
      refine ev_callVI (As := [.int x1, .int x6, .int x7]) cl_RX11_350 (ct_X11_isBestClaim l hl G x0 hx0 x1 x6 x7 M) dd_X11_clerks_52 hx0 (by decide) (Nat.le_of_ble_eq_true rfl) (Nat.le_of_ble_eq_true rfl) rfl rfl (fun r1 M3 => ?_)
      refine ev_jo (fun (k1 : Int32 → Int32 → zM → zO) => ∀ (w2 : Int32) (w3 : Int32) (M6 : zM), zEv l G Y_X11_clerks 11 4 94 [(0, .ref (G.2.1 + x0)), (1, .int x1), (2, .int x2), (3, .int x3), (4, .int w2), (5, .int w3), (6, .int x6), (7, .int x7)] [] M6 (k1 w2 w3 M6)) ?_ (fun k1 hk1 => ?_)
      · intro w2 w3 M6
        refine ev_iinc (j := 7) (v := 1) (lv' := [(0, .ref (G.2.1 + x0)), (1, .int x1), (2, .int x2), (3, .int x3), (4, .int w2), (5, .int w3), (6, .int x6), (7, .int (x7 + 1))]) [1, 2, 3, 4, 5, 6, 7, 0] dd_X11_clerks_94 rfl (by decide) (by decide) rfl ?_
        refine ev_goto 34 dd_X11_clerks_97 (by decide) ?_
        exact ih _ _ _ _
      · refine ev_if_eq 94 dd_X11_clerks_55 (by decide) ?_ ?_
        · exact hk1 _ _ _
        · refine ev_aload_n dd_X11_clerks_58 0 rfl ?_
          refine ev_iload_n dd_X11_clerks_59 2 rfl ?_
          refine ev_iload dd_X11_clerks_60 7 rfl ?_
          refine ev_iload dd_X11_clerks_62 6 rfl ?_
          refine ev_callVI (As := [.int x2, .int x7, .int x6]) cl_RX11_350 (ct_X11_isBestClaim l hl G x0 hx0 x2 x7 x6 M3) dd_X11_clerks_64 hx0 (by decide) (Nat.le_of_ble_eq_true rfl) (Nat.le_of_ble_eq_true rfl) rfl rfl (fun r2 M4 => ?_)
          refine ev_if_eq 94 dd_X11_clerks_67 (by decide) ?_ ?_
          · exact hk1 _ _ _
          · refine ev_iinc (j := 4) (v := 1) (lv' := [(0, .ref (G.2.1 + x0)), (1, .int x1), (2, .int x2), (3, .int x3), (4, .int (x4 + 1)), (5, .int x5), (6, .int x6), (7, .int x7)]) [1, 2, 3, 4, 0, 5, 6, 7] dd_X11_clerks_70 rfl (by decide) (by decide) rfl ?_
            refine ev_iload dd_X11_clerks_73 5 rfl ?_
            refine ev_iconst (v := (-1)) dd_X11_clerks_75 (by decide) ?_
            refine ev_jo (fun (k2 : Int32 → zM → zO) => ∀ (w1 : Int32) (M5 : zM), zEv l G Y_X11_clerks 11 4 92 [(0, .ref (G.2.1 + x0)), (1, .int x1), (2, .int x2), (3, .int x3), (4, .int (x4 + 1)), (6, .int x6), (7, .int x7)] [.int w1] M5 (k2 w1 M5)) ?_ (fun k2 hk2 => ?_)
            · intro w1 M5
              refine ev_istore (i := 5) (lv' := [(0, .ref (G.2.1 + x0)), (1, .int x1), (2, .int x2), (3, .int x3), (4, .int (x4 + 1)), (5, .int w1), (6, .int x6), (7, .int x7)]) [1, 2, 3, 4, 5, 0, 6, 7] dd_X11_clerks_92 (by decide) rfl ?_
              exact hk1 _ _ _
            · refine ev_icmp_ne 90 dd_X11_clerks_76 (by decide) ?_ ?_
              · refine ev_iload dd_X11_clerks_90 5 rfl ?_
                refine ev_lv (lv' := [(0, .ref (G.2.1 + x0)), (1, .int x1), (2, .int x2), (3, .int x3), (4, .int (x4 + 1)), (6, .int x6), (7, .int x7)]) [0, 1, 2, 3, 4, 6, 7] rfl ?_
                exact hk2 _ _
              · refine ev_lv (lv' := [(0, .ref (G.2.1 + x0)), (1, .int x1), (2, .int x2), (3, .int x3), (4, .int (x4 + 1)), (6, .int x6), (7, .int x7)]) [0, 1, 2, 3, 4, 6, 7] rfl ?_
                refine ev_bipush (v := 10) dd_X11_clerks_79 (by decide) ?_
                refine ev_iload dd_X11_clerks_81 5 rfl ?_
                refine ev_imul dd_X11_clerks_83 ?_
                refine ev_iload dd_X11_clerks_84 6 rfl ?_
                refine ev_iadd dd_X11_clerks_86 ?_
                refine ev_goto 92 dd_X11_clerks_87 (by decide) ?_
                exact hk2 _ _
set_option maxHeartbeats 1000000 in
set_option maxRecDepth 20000 in
theorem ct_X11_clerks_L19 (l : Launch) (hl : l.stackTraces = false) (G : zG) (x0 : Nat) (hx0 : zsh x0 = 11) (x1 : Int32) (x2 : Int32) (x3 : Int32) (K106 : Int32 → Int32 → zM → zO) (hK106 : ∀ (x4 : Int32) (x5 : Int32) (M : zM), zEv l G Y_X11_clerks 11 4 106 [(3, .int x3), (4, .int x4), (5, .int x5)] [] M (K106 x4 x5 M)) : ∀ (n : Nat) (x4 : Int32) (x5 : Int32) (x6 : Int32) (M : zM), zEv l G Y_X11_clerks 11 4 19 [(0, .ref (G.2.1 + x0)), (1, .int x1), (2, .int x2), (3, .int x3), (4, .int x4), (5, .int x5), (6, .int x6)] [] M (F_X11_clerks_L19 x0 x1 x2 x3 K106 n x4 x5 x6 M) := by
  intro n
  induction n with
  | zero => intro x4 x5 x6 M; exact ev_none
  | succ n ih =>
    intro x4 x5 x6 M
    show zEv l G Y_X11_clerks 11 4 19 [(0, .ref (G.2.1 + x0)), (1, .int x1), (2, .int x2), (3, .int x3), (4, .int x4), (5, .int x5), (6, .int x6)] [] M (zit ((M (zgr x0 1) 0) ≤ x6) (K106 x4 x5 M) (F_X11_clerks_L34 x0 x1 x2 x3 x6 (fun (y1 : Int32) (y2 : Int32) (M7 : zM) => F_X11_clerks_L19 x0 x1 x2 x3 K106 n y1 y2 (x6 + 1) M7) zN x4 x5 0 M))
    refine ev_iload dd_X11_clerks_19 6 rfl ?_
    refine ev_aload_n dd_X11_clerks_21 0 rfl ?_
    refine ev_getR gf_RX11_19 dd_X11_clerks_22 hx0 (by decide) ?_
    refine ev_getI gf_RX11_142 dd_X11_clerks_25 (zg_11_1 hx0) (by decide) ?_
    refine ev_icmp_ge 106 dd_X11_clerks_28 (by decide) ?_ ?_
    · refine ev_lv (lv' := [(3, .int x3), (4, .int x4), (5, .int x5)]) [3, 4, 5] rfl ?_
      exact hK106 _ _ _
    · refine ev_iconst (v := 0) dd_X11_clerks_31 (by decide) ?_
      refine ev_istore (i := 7) (lv' := [(0, .ref (G.2.1 + x0)), (1, .int x1), (2, .int x2), (3, .int x3), (4, .int x4), (5, .int x5), (6, .int x6), (7, .int 0)]) [1, 2, 3, 4, 5, 6, 7, 0] dd_X11_clerks_32 (by decide) rfl ?_
      refine ct_X11_clerks_L34 l hl G x0 hx0 x1 x2 x3 x6 _ (fun y1 y2 M7 => ?_) zN _ _ _ _
      refine ev_iinc (j := 6) (v := 1) (lv' := [(0, .ref (G.2.1 + x0)), (1, .int x1), (2, .int x2), (3, .int x3), (4, .int y1), (5, .int y2), (6, .int (x6 + 1))]) [1, 2, 3, 4, 5, 6, 0] dd_X11_clerks_100 rfl (by decide) (by decide) rfl ?_
      refine ev_goto 19 dd_X11_clerks_103 (by decide) ?_
      exact ih _ _ _ _
set_option maxHeartbeats 1000000 in
set_option maxRecDepth 20000 in
theorem ct_X11_clerks (l : Launch) (hl : l.stackTraces = false) (G : zG) (t : Nat) (ht : zsh t = 11) (a1 : Int32) (a2 : Int32) (a3 : Int32) (M : zM) : zMt l G Y_X11_clerks 11 [.ref (G.2.1 + t), .int a1, .int a2, .int a3] M (F_X11_clerks t a1 a2 a3 M) := by
  refine zMt_of (by decide +kernel) (Nat.le_of_ble_eq_true rfl) ?_
  show zEv l G Y_X11_clerks 11 0 0 [(0, .ref (G.2.1 + t)), (1, .int a1), (2, .int a2), (3, .int a3)] [] M (zbV (F_X11_needFirstOrCount a3 M) (fun M1 => zbV (F_X11_needTwo t a1 a2 M1) (fun M2 => F_X11_clerks_L19 t a1 a2 a3 (fun (y3 : Int32) (y4 : Int32) (M8 : zM) => zjo (fun (w4 : Int32) (M9 : zM) => zI w4 M9) (fun (k3 : Int32 → zM → zO) => zit (a3 = 0) (k3 y3 M8) (k3 y4 M8))) zN 0 (-1) 0 M2)))
  refine ev_iload_n dd_X11_clerks_0 3 rfl ?_
  refine ev_callSV (As := [.int a3]) cl_RX11_245 (ct_X11_needFirstOrCount l hl G a3 M) dd_X11_clerks_1 (by decide) (Nat.le_of_ble_eq_true rfl) (Nat.le_of_ble_eq_true rfl) rfl rfl (fun M1 => ?_)
  refine ev_aload_n dd_X11_clerks_4 0 rfl ?_
  refine ev_iload_n dd_X11_clerks_5 1 rfl ?_
  refine ev_iload_n dd_X11_clerks_6 2 rfl ?_
  refine ev_callVV (As := [.int a1, .int a2]) cl_RX11_209 (ct_X11_needTwo l hl G t ht a1 a2 M1) dd_X11_clerks_7 ht (by decide) (Nat.le_of_ble_eq_true rfl) (Nat.le_of_ble_eq_true rfl) rfl rfl (fun M2 => ?_)
  refine ev_iconst (v := 0) dd_X11_clerks_10 (by decide) ?_
  refine ev_istore (i := 4) (lv' := [(0, .ref (G.2.1 + t)), (1, .int a1), (2, .int a2), (3, .int a3), (4, .int 0)]) [1, 2, 3, 4, 0] dd_X11_clerks_11 (by decide) rfl ?_
  refine ev_iconst (v := (-1)) dd_X11_clerks_13 (by decide) ?_
  refine ev_istore (i := 5) (lv' := [(0, .ref (G.2.1 + t)), (1, .int a1), (2, .int a2), (3, .int a3), (4, .int 0), (5, .int (-1))]) [1, 2, 3, 4, 5, 0] dd_X11_clerks_14 (by decide) rfl ?_
  refine ev_iconst (v := 0) dd_X11_clerks_16 (by decide) ?_
  refine ev_istore (i := 6) (lv' := [(0, .ref (G.2.1 + t)), (1, .int a1), (2, .int a2), (3, .int a3), (4, .int 0), (5, .int (-1)), (6, .int 0)]) [1, 2, 3, 4, 5, 6, 0] dd_X11_clerks_17 (by decide) rfl ?_
  refine ct_X11_clerks_L19 l hl G t ht a1 a2 a3 _ (fun y3 y4 M8 => ?_) zN _ _ _ _
  refine ev_iload_n dd_X11_clerks_106 0 rfl ?_
  refine ev_lv (lv' := [(4, .int y3), (5, .int y4)]) [1, 2] rfl ?_
  refine ev_jo (fun (k3 : Int32 → zM → zO) => ∀ (w4 : Int32) (M9 : zM), zEv l G Y_X11_clerks 11 4 117 [] [.int w4] M9 (k3 w4 M9)) ?_ (fun k3 hk3 => ?_)
  · intro w4 M9
    exact ev_iret dd_X11_clerks_117 rfl (Nat.le_of_ble_eq_true rfl) rfl
  · refine ev_if_ne 115 dd_X11_clerks_107 (by decide) ?_ ?_
    · refine ev_lv (lv' := [(5, .int y4)]) [1] rfl ?_
      refine ev_iload dd_X11_clerks_115 0 rfl ?_
      refine ev_lv (lv' := []) [] rfl ?_
      exact hk3 _ _
    · refine ev_lv (lv' := [(4, .int y3)]) [0] rfl ?_
      refine ev_iload dd_X11_clerks_110 0 rfl ?_
      refine ev_lv (lv' := []) [] rfl ?_
      refine ev_goto 117 dd_X11_clerks_112 (by decide) ?_
      exact hk3 _ _
/-! X11_count -/
theorem dd_X11_count_0 : decode Y_X11_count.2.1 0 = .ok (.iload_n 1, 1) := by decide +kernel
theorem dd_X11_count_1 : decode Y_X11_count.2.1 1 = .ok (.tableswitch 144 0 10 #[59, 67, 75, 83, 91, 99, 107, 115, 122, 129, 136], 59) := by decide +kernel
theorem dd_X11_count_60 : decode Y_X11_count.2.1 60 = .ok (.aload_n 0, 1) := by decide +kernel
theorem dd_X11_count_61 : decode Y_X11_count.2.1 61 = .ok (.getfield 19, 3) := by decide +kernel
theorem dd_X11_count_64 : decode Y_X11_count.2.1 64 = .ok (.getfield 142, 3) := by decide +kernel
theorem dd_X11_count_67 : decode Y_X11_count.2.1 67 = .ok (.ireturn, 1) := by decide +kernel
theorem dd_X11_count_68 : decode Y_X11_count.2.1 68 = .ok (.aload_n 0, 1) := by decide +kernel
theorem dd_X11_count_69 : decode Y_X11_count.2.1 69 = .ok (.getfield 19, 3) := by decide +kernel
theorem dd_X11_count_72 : decode Y_X11_count.2.1 72 = .ok (.getfield 145, 3) := by decide +kernel
theorem dd_X11_count_75 : decode Y_X11_count.2.1 75 = .ok (.ireturn, 1) := by decide +kernel
theorem dd_X11_count_76 : decode Y_X11_count.2.1 76 = .ok (.aload_n 0, 1) := by decide +kernel
theorem dd_X11_count_77 : decode Y_X11_count.2.1 77 = .ok (.getfield 19, 3) := by decide +kernel
theorem dd_X11_count_80 : decode Y_X11_count.2.1 80 = .ok (.getfield 148, 3) := by decide +kernel
theorem dd_X11_count_83 : decode Y_X11_count.2.1 83 = .ok (.ireturn, 1) := by decide +kernel
theorem dd_X11_count_84 : decode Y_X11_count.2.1 84 = .ok (.aload_n 0, 1) := by decide +kernel
theorem dd_X11_count_85 : decode Y_X11_count.2.1 85 = .ok (.getfield 40, 3) := by decide +kernel
theorem dd_X11_count_88 : decode Y_X11_count.2.1 88 = .ok (.getfield 151, 3) := by decide +kernel
theorem dd_X11_count_91 : decode Y_X11_count.2.1 91 = .ok (.ireturn, 1) := by decide +kernel
theorem dd_X11_count_92 : decode Y_X11_count.2.1 92 = .ok (.aload_n 0, 1) := by decide +kernel
theorem dd_X11_count_93 : decode Y_X11_count.2.1 93 = .ok (.getfield 53, 3) := by decide +kernel
theorem dd_X11_count_96 : decode Y_X11_count.2.1 96 = .ok (.getfield 154, 3) := by decide +kernel
theorem dd_X11_count_99 : decode Y_X11_count.2.1 99 = .ok (.ireturn, 1) := by decide +kernel
theorem dd_X11_count_100 : decode Y_X11_count.2.1 100 = .ok (.aload_n 0, 1) := by decide +kernel
theorem dd_X11_count_101 : decode Y_X11_count.2.1 101 = .ok (.getfield 53, 3) := by decide +kernel
theorem dd_X11_count_104 : decode Y_X11_count.2.1 104 = .ok (.getfield 157, 3) := by decide +kernel
theorem dd_X11_count_107 : decode Y_X11_count.2.1 107 = .ok (.ireturn, 1) := by decide +kernel
theorem dd_X11_count_108 : decode Y_X11_count.2.1 108 = .ok (.aload_n 0, 1) := by decide +kernel
theorem dd_X11_count_109 : decode Y_X11_count.2.1 109 = .ok (.getfield 10, 3) := by decide +kernel
theorem dd_X11_count_112 : decode Y_X11_count.2.1 112 = .ok (.getfield 116, 3) := by decide +kernel
theorem dd_X11_count_115 : decode Y_X11_count.2.1 115 = .ok (.ireturn, 1) := by decide +kernel
theorem dd_X11_count_116 : decode Y_X11_count.2.1 116 = .ok (.aload_n 0, 1) := by decide +kernel
theorem dd_X11_count_117 : decode Y_X11_count.2.1 117 = .ok (.getfield 96, 3) := by decide +kernel
theorem dd_X11_count_120 : decode Y_X11_count.2.1 120 = .ok (.iconst 0, 1) := by decide +kernel
theorem dd_X11_count_121 : decode Y_X11_count.2.1 121 = .ok (.iaload, 1) := by decide +kernel
theorem dd_X11_count_122 : decode Y_X11_count.2.1 122 = .ok (.ireturn, 1) := by decide +kernel
theorem dd_X11_count_123 : decode Y_X11_count.2.1 123 = .ok (.aload_n 0, 1) := by decide +kernel
theorem dd_X11_count_124 : decode Y_X11_count.2.1 124 = .ok (.getfield 96, 3) := by decide +kernel
theorem dd_X11_count_127 : decode Y_X11_count.2.1 127 = .ok (.iconst 1, 1) := by decide +kernel
theorem dd_X11_count_128 : decode Y_X11_count.2.1 128 = .ok (.iaload, 1) := by decide +kernel
theorem dd_X11_count_129 : decode Y_X11_count.2.1 129 = .ok (.ireturn, 1) := by decide +kernel
theorem dd_X11_count_130 : decode Y_X11_count.2.1 130 = .ok (.aload_n 0, 1) := by decide +kernel
theorem dd_X11_count_131 : decode Y_X11_count.2.1 131 = .ok (.getfield 96, 3) := by decide +kernel
theorem dd_X11_count_134 : decode Y_X11_count.2.1 134 = .ok (.iconst 2, 1) := by decide +kernel
theorem dd_X11_count_135 : decode Y_X11_count.2.1 135 = .ok (.iaload, 1) := by decide +kernel
theorem dd_X11_count_136 : decode Y_X11_count.2.1 136 = .ok (.ireturn, 1) := by decide +kernel
theorem dd_X11_count_137 : decode Y_X11_count.2.1 137 = .ok (.aload_n 0, 1) := by decide +kernel
theorem dd_X11_count_138 : decode Y_X11_count.2.1 138 = .ok (.getfield 40, 3) := by decide +kernel
theorem dd_X11_count_141 : decode Y_X11_count.2.1 141 = .ok (.invokevirtual 160, 3) := by decide +kernel
theorem dd_X11_count_144 : decode Y_X11_count.2.1 144 = .ok (.ireturn, 1) := by decide +kernel
theorem dd_X11_count_145 : decode Y_X11_count.2.1 145 = .ok (.new 164, 3) := by decide +kernel
theorem dd_X11_count_148 : decode Y_X11_count.2.1 148 = .ok (.dup, 1) := by decide +kernel
theorem dd_X11_count_149 : decode Y_X11_count.2.1 149 = .ok (.ldc 166, 2) := by decide +kernel
theorem dd_X11_count_151 : decode Y_X11_count.2.1 151 = .ok (.invokespecial 168, 3) := by decide +kernel
theorem dd_X11_count_154 : decode Y_X11_count.2.1 154 = .ok (.athrow, 1) := by decide +kernel
def F_X11_count (t : Nat) (a1 : Int32) (M : zM) : zO := zit (a1 = 0) (zI (M (zgr t 1) 0) M) (zit (a1 = 1) (zI (M (zgr t 1) 1) M) (zit (a1 = 2) (zI (M (zgr t 1) 2) M) (zit (a1 = 3) (zI (M (zgr t 4) 3) M) (zit (a1 = 4) (zI (M (zgr t 7) 0) M) (zit (a1 = 5) (zI (M (zgr t 7) 1) M) (zit (a1 = 6) (zI (M (zgr t 0) 1) M) (zit (a1 = 7) (zck (zin 0 3) (zI (M (zgr t 13) (zix 0)) M)) (zit (a1 = 8) (zck (zin 1 3) (zI (M (zgr t 13) (zix 1)) M)) (zit (a1 = 9) (zck (zin 2 3) (zI (M (zgr t 13) (zix 2)) M)) (zit (a1 = 10) (zbI (F_X10_atHome (zgr t 4) M) (fun r1 M1 => zI r1 M1)) (zE "java/util/NoSuchElementException" M)))))))))))
set_option maxHeartbeats 1000000 in
set_option maxRecDepth 20000 in
theorem ct_X11_count (l : Launch) (hl : l.stackTraces = false) (G : zG) (t : Nat) (ht : zsh t = 11) (a1 : Int32) (M : zM) : zMt l G Y_X11_count 2 [.ref (G.2.1 + t), .int a1] M (F_X11_count t a1 M) := by
  refine zMt_of (by decide +kernel) (Nat.le_of_ble_eq_true rfl) ?_
  show zEv l G Y_X11_count 2 0 0 [(0, .ref (G.2.1 + t)), (1, .int a1)] [] M (zit (a1 = 0) (zI (M (zgr t 1) 0) M) (zit (a1 = 1) (zI (M (zgr t 1) 1) M) (zit (a1 = 2) (zI (M (zgr t 1) 2) M) (zit (a1 = 3) (zI (M (zgr t 4) 3) M) (zit (a1 = 4) (zI (M (zgr t 7) 0) M) (zit (a1 = 5) (zI (M (zgr t 7) 1) M) (zit (a1 = 6) (zI (M (zgr t 0) 1) M) (zit (a1 = 7) (zck (zin 0 3) (zI (M (zgr t 13) (zix 0)) M)) (zit (a1 = 8) (zck (zin 1 3) (zI (M (zgr t 13) (zix 1)) M)) (zit (a1 = 9) (zck (zin 2 3) (zI (M (zgr t 13) (zix 2)) M)) (zit (a1 = 10) (zbI (F_X10_atHome (zgr t 4) M) (fun r1 M1 => zI r1 M1)) (zE "java/util/NoSuchElementException" M))))))))))))
  refine ev_iload_n dd_X11_count_0 1 rfl ?_
  refine ev_lv (lv' := [(0, .ref (G.2.1 + t))]) [0] rfl ?_
  refine ev_it (fun hs1 => ?_) (fun hs1 => ?_)
  · refine ev_tabIn (off := 59) (tgt := 60) dd_X11_count_1 0 hs1 (by decide +kernel) ?_
    refine ev_aload_n dd_X11_count_60 0 rfl ?_
    refine ev_lv (lv' := []) [] rfl ?_
    refine ev_getR gf_RX11_19 dd_X11_count_61 ht (by decide) ?_
    refine ev_getI gf_RX11_142 dd_X11_count_64 (zg_11_1 ht) (by decide) ?_
    exact ev_iret dd_X11_count_67 rfl (Nat.le_of_ble_eq_true rfl) rfl
  refine ev_it (fun hs2 => ?_) (fun hs2 => ?_)
  · refine ev_tabIn (off := 67) (tgt := 68) dd_X11_count_1 1 hs2 (by decide +kernel) ?_
    refine ev_aload_n dd_X11_count_68 0 rfl ?_
    refine ev_lv (lv' := []) [] rfl ?_
    refine ev_getR gf_RX11_19 dd_X11_count_69 ht (by decide) ?_
    refine ev_getI gf_RX11_145 dd_X11_count_72 (zg_11_1 ht) (by decide) ?_
    exact ev_iret dd_X11_count_75 rfl (Nat.le_of_ble_eq_true rfl) rfl
  refine ev_it (fun hs3 => ?_) (fun hs3 => ?_)
  · refine ev_tabIn (off := 75) (tgt := 76) dd_X11_count_1 2 hs3 (by decide +kernel) ?_
    refine ev_aload_n dd_X11_count_76 0 rfl ?_
    refine ev_lv (lv' := []) [] rfl ?_
    refine ev_getR gf_RX11_19 dd_X11_count_77 ht (by decide) ?_
    refine ev_getI gf_RX11_148 dd_X11_count_80 (zg_11_1 ht) (by decide) ?_
    exact ev_iret dd_X11_count_83 rfl (Nat.le_of_ble_eq_true rfl) rfl
  refine ev_it (fun hs4 => ?_) (fun hs4 => ?_)
  · refine ev_tabIn (off := 83) (tgt := 84) dd_X11_count_1 3 hs4 (by decide +kernel) ?_
    refine ev_aload_n dd_X11_count_84 0 rfl ?_
    refine ev_lv (lv' := []) [] rfl ?_
    refine ev_getR gf_RX11_40 dd_X11_count_85 ht (by decide) ?_
    refine ev_getI gf_RX11_151 dd_X11_count_88 (zg_11_4 ht) (by decide) ?_
    exact ev_iret dd_X11_count_91 rfl (Nat.le_of_ble_eq_true rfl) rfl
  refine ev_it (fun hs5 => ?_) (fun hs5 => ?_)
  · refine ev_tabIn (off := 91) (tgt := 92) dd_X11_count_1 4 hs5 (by decide +kernel) ?_
    refine ev_aload_n dd_X11_count_92 0 rfl ?_
    refine ev_lv (lv' := []) [] rfl ?_
    refine ev_getR gf_RX11_53 dd_X11_count_93 ht (by decide) ?_
    refine ev_getI gf_RX11_154 dd_X11_count_96 (zg_11_7 ht) (by decide) ?_
    exact ev_iret dd_X11_count_99 rfl (Nat.le_of_ble_eq_true rfl) rfl
  refine ev_it (fun hs6 => ?_) (fun hs6 => ?_)
  · refine ev_tabIn (off := 99) (tgt := 100) dd_X11_count_1 5 hs6 (by decide +kernel) ?_
    refine ev_aload_n dd_X11_count_100 0 rfl ?_
    refine ev_lv (lv' := []) [] rfl ?_
    refine ev_getR gf_RX11_53 dd_X11_count_101 ht (by decide) ?_
    refine ev_getI gf_RX11_157 dd_X11_count_104 (zg_11_7 ht) (by decide) ?_
    exact ev_iret dd_X11_count_107 rfl (Nat.le_of_ble_eq_true rfl) rfl
  refine ev_it (fun hs7 => ?_) (fun hs7 => ?_)
  · refine ev_tabIn (off := 107) (tgt := 108) dd_X11_count_1 6 hs7 (by decide +kernel) ?_
    refine ev_aload_n dd_X11_count_108 0 rfl ?_
    refine ev_lv (lv' := []) [] rfl ?_
    refine ev_getR gf_RX11_10 dd_X11_count_109 ht (by decide) ?_
    refine ev_getI gf_RX11_116 dd_X11_count_112 (zg_11_0 ht) (by decide) ?_
    exact ev_iret dd_X11_count_115 rfl (Nat.le_of_ble_eq_true rfl) rfl
  refine ev_it (fun hs8 => ?_) (fun hs8 => ?_)
  · refine ev_tabIn (off := 115) (tgt := 116) dd_X11_count_1 7 hs8 (by decide +kernel) ?_
    refine ev_aload_n dd_X11_count_116 0 rfl ?_
    refine ev_lv (lv' := []) [] rfl ?_
    refine ev_getR gf_RX11_96 dd_X11_count_117 ht (by decide) ?_
    refine ev_iconst (v := 0) dd_X11_count_120 (by decide) ?_
    refine ev_iald dd_X11_count_121 ((zg_11_13 ht).1) ((zg_11_13 ht).2) ?_
    exact ev_iret dd_X11_count_122 rfl (Nat.le_of_ble_eq_true rfl) rfl
  refine ev_it (fun hs9 => ?_) (fun hs9 => ?_)
  · refine ev_tabIn (off := 122) (tgt := 123) dd_X11_count_1 8 hs9 (by decide +kernel) ?_
    refine ev_aload_n dd_X11_count_123 0 rfl ?_
    refine ev_lv (lv' := []) [] rfl ?_
    refine ev_getR gf_RX11_96 dd_X11_count_124 ht (by decide) ?_
    refine ev_iconst (v := 1) dd_X11_count_127 (by decide) ?_
    refine ev_iald dd_X11_count_128 ((zg_11_13 ht).1) ((zg_11_13 ht).2) ?_
    exact ev_iret dd_X11_count_129 rfl (Nat.le_of_ble_eq_true rfl) rfl
  refine ev_it (fun hs10 => ?_) (fun hs10 => ?_)
  · refine ev_tabIn (off := 129) (tgt := 130) dd_X11_count_1 9 hs10 (by decide +kernel) ?_
    refine ev_aload_n dd_X11_count_130 0 rfl ?_
    refine ev_lv (lv' := []) [] rfl ?_
    refine ev_getR gf_RX11_96 dd_X11_count_131 ht (by decide) ?_
    refine ev_iconst (v := 2) dd_X11_count_134 (by decide) ?_
    refine ev_iald dd_X11_count_135 ((zg_11_13 ht).1) ((zg_11_13 ht).2) ?_
    exact ev_iret dd_X11_count_136 rfl (Nat.le_of_ble_eq_true rfl) rfl
  refine ev_it (fun hs11 => ?_) (fun hs11 => ?_)
  · refine ev_tabIn (off := 136) (tgt := 137) dd_X11_count_1 10 hs11 (by decide +kernel) ?_
    refine ev_aload_n dd_X11_count_137 0 rfl ?_
    refine ev_lv (lv' := []) [] rfl ?_
    refine ev_getR gf_RX11_40 dd_X11_count_138 ht (by decide) ?_
    refine ev_callVI (As := []) cl_RX11_160 (ct_X10_atHome l hl G (zgr t 4) (zg_11_4 ht) M) dd_X11_count_141 (zg_11_4 ht) (by decide) (Nat.le_of_ble_eq_true rfl) (Nat.le_of_ble_eq_true rfl) rfl rfl (fun r1 M1 => ?_)
    exact ev_iret dd_X11_count_144 rfl (Nat.le_of_ble_eq_true rfl) rfl
  refine ev_tabOut (tgt := 145) dd_X11_count_1 (by have e0 := i32ne hs1 (n := 0) (by decide); have e1 := i32ne hs2 (n := 1) (by decide); have e2 := i32ne hs3 (n := 2) (by decide); have e3 := i32ne hs4 (n := 3) (by decide); have e4 := i32ne hs5 (n := 4) (by decide); have e5 := i32ne hs6 (n := 5) (by decide); have e6 := i32ne hs7 (n := 6) (by decide); have e7 := i32ne hs8 (n := 7) (by decide); have e8 := i32ne hs9 (n := 8) (by decide); have e9 := i32ne hs10 (n := 9) (by decide); have e10 := i32ne hs11 (n := 10) (by decide); omega) (by decide) ?_
  refine ev_lv (lv' := []) [] rfl ?_
  exact ev_throwN hl zTh_NSE sr_RX11_166 dd_X11_count_145 dd_X11_count_148 dd_X11_count_149 dd_X11_count_151 dd_X11_count_154 (Nat.le_of_ble_eq_true rfl) (Nat.le_of_ble_eq_true rfl)
/-! X11_debt -/
theorem dd_X11_debt_0 : decode Y_X11_debt.2.1 0 = .ok (.aload_n 0, 1) := by decide +kernel
theorem dd_X11_debt_1 : decode Y_X11_debt.2.1 1 = .ok (.iload_n 1, 1) := by decide +kernel
theorem dd_X11_debt_2 : decode Y_X11_debt.2.1 2 = .ok (.iload_n 2, 1) := by decide +kernel
theorem dd_X11_debt_3 : decode Y_X11_debt.2.1 3 = .ok (.invokevirtual 209, 3) := by decide +kernel
theorem dd_X11_debt_6 : decode Y_X11_debt.2.1 6 = .ok (.aload_n 0, 1) := by decide +kernel
theorem dd_X11_debt_7 : decode Y_X11_debt.2.1 7 = .ok (.getfield 40, 3) := by decide +kernel
theorem dd_X11_debt_10 : decode Y_X11_debt.2.1 10 = .ok (.iload_n 1, 1) := by decide +kernel
theorem dd_X11_debt_11 : decode Y_X11_debt.2.1 11 = .ok (.iload_n 2, 1) := by decide +kernel
theorem dd_X11_debt_12 : decode Y_X11_debt.2.1 12 = .ok (.invokevirtual 212, 3) := by decide +kernel
theorem dd_X11_debt_15 : decode Y_X11_debt.2.1 15 = .ok (.ireturn, 1) := by decide +kernel
def F_X11_debt (t : Nat) (a1 : Int32) (a2 : Int32) (M : zM) : zO := zbV (F_X11_needTwo t a1 a2 M) (fun M1 => zbI (F_X10_owes (zgr t 4) a1 a2 M1) (fun r1 M2 => zI r1 M2))
set_option maxHeartbeats 1000000 in
set_option maxRecDepth 20000 in
theorem ct_X11_debt (l : Launch) (hl : l.stackTraces = false) (G : zG) (t : Nat) (ht : zsh t = 11) (a1 : Int32) (a2 : Int32) (M : zM) : zMt l G Y_X11_debt 3 [.ref (G.2.1 + t), .int a1, .int a2] M (F_X11_debt t a1 a2 M) := by
  refine zMt_of (by decide +kernel) (Nat.le_of_ble_eq_true rfl) ?_
  show zEv l G Y_X11_debt 3 0 0 [(0, .ref (G.2.1 + t)), (1, .int a1), (2, .int a2)] [] M (zbV (F_X11_needTwo t a1 a2 M) (fun M1 => zbI (F_X10_owes (zgr t 4) a1 a2 M1) (fun r1 M2 => zI r1 M2)))
  refine ev_aload_n dd_X11_debt_0 0 rfl ?_
  refine ev_iload_n dd_X11_debt_1 1 rfl ?_
  refine ev_iload_n dd_X11_debt_2 2 rfl ?_
  refine ev_callVV (As := [.int a1, .int a2]) cl_RX11_209 (ct_X11_needTwo l hl G t ht a1 a2 M) dd_X11_debt_3 ht (by decide) (Nat.le_of_ble_eq_true rfl) (Nat.le_of_ble_eq_true rfl) rfl rfl (fun M1 => ?_)
  refine ev_aload_n dd_X11_debt_6 0 rfl ?_
  refine ev_lv (lv' := [(1, .int a1), (2, .int a2)]) [1, 2] rfl ?_
  refine ev_getR gf_RX11_40 dd_X11_debt_7 ht (by decide) ?_
  refine ev_iload_n dd_X11_debt_10 0 rfl ?_
  refine ev_lv (lv' := [(2, .int a2)]) [1] rfl ?_
  refine ev_iload_n dd_X11_debt_11 0 rfl ?_
  refine ev_lv (lv' := []) [] rfl ?_
  refine ev_callVI (As := [.int a1, .int a2]) cl_RX11_212 (ct_X10_owes l hl G (zgr t 4) (zg_11_4 ht) a1 a2 M1) dd_X11_debt_12 (zg_11_4 ht) (by decide) (Nat.le_of_ble_eq_true rfl) (Nat.le_of_ble_eq_true rfl) rfl rfl (fun r1 M2 => ?_)
  exact ev_iret dd_X11_debt_15 rfl (Nat.le_of_ble_eq_true rfl) rfl
/-! X11_fault -/
theorem dd_X11_fault_0 : decode Y_X11_fault.2.1 0 = .ok (.aload_n 0, 1) := by decide +kernel
theorem dd_X11_fault_1 : decode Y_X11_fault.2.1 1 = .ok (.getfield 10, 3) := by decide +kernel
theorem dd_X11_fault_4 : decode Y_X11_fault.2.1 4 = .ok (.getfield 139, 3) := by decide +kernel
theorem dd_X11_fault_7 : decode Y_X11_fault.2.1 7 = .ok (.ireturn, 1) := by decide +kernel
def F_X11_fault (t : Nat) (M : zM) : zO := zI (M (zgr t 0) 8) M
set_option maxHeartbeats 1000000 in
set_option maxRecDepth 20000 in
theorem ct_X11_fault (l : Launch) (hl : l.stackTraces = false) (G : zG) (t : Nat) (ht : zsh t = 11) (M : zM) : zMt l G Y_X11_fault 1 [.ref (G.2.1 + t)] M (F_X11_fault t M) := by
  refine zMt_of (by decide +kernel) (Nat.le_of_ble_eq_true rfl) ?_
  show zEv l G Y_X11_fault 1 0 0 [(0, .ref (G.2.1 + t))] [] M (zI (M (zgr t 0) 8) M)
  refine ev_aload_n dd_X11_fault_0 0 rfl ?_
  refine ev_lv (lv' := []) [] rfl ?_
  refine ev_getR gf_RX11_10 dd_X11_fault_1 ht (by decide) ?_
  refine ev_getI gf_RX11_139 dd_X11_fault_4 (zg_11_0 ht) (by decide) ?_
  exact ev_iret dd_X11_fault_7 rfl (Nat.le_of_ble_eq_true rfl) rfl
/-! X8_hasRoom -/
theorem dd_X8_hasRoom_0 : decode Y_X8_hasRoom.2.1 0 = .ok (.aload_n 0, 1) := by decide +kernel
theorem dd_X8_hasRoom_1 : decode Y_X8_hasRoom.2.1 1 = .ok (.getfield 15, 3) := by decide +kernel
theorem dd_X8_hasRoom_4 : decode Y_X8_hasRoom.2.1 4 = .ok (.iload_n 1, 1) := by decide +kernel
theorem dd_X8_hasRoom_5 : decode Y_X8_hasRoom.2.1 5 = .ok (.iadd, 1) := by decide +kernel
theorem dd_X8_hasRoom_6 : decode Y_X8_hasRoom.2.1 6 = .ok (.sipush 700, 3) := by decide +kernel
theorem dd_X8_hasRoom_9 : decode Y_X8_hasRoom.2.1 9 = .ok (.if_icmp .gt 7, 3) := by decide +kernel
theorem dd_X8_hasRoom_12 : decode Y_X8_hasRoom.2.1 12 = .ok (.iconst 1, 1) := by decide +kernel
theorem dd_X8_hasRoom_13 : decode Y_X8_hasRoom.2.1 13 = .ok (.goto 4, 3) := by decide +kernel
theorem dd_X8_hasRoom_16 : decode Y_X8_hasRoom.2.1 16 = .ok (.iconst 0, 1) := by decide +kernel
theorem dd_X8_hasRoom_17 : decode Y_X8_hasRoom.2.1 17 = .ok (.ireturn, 1) := by decide +kernel
def F_X8_hasRoom (t : Nat) (a1 : Int32) (M : zM) : zO := zjo (fun (w1 : Int32) (M1 : zM) => zck (zbo w1) (zI w1 M1)) (fun (k1 : Int32 → zM → zO) => zit (700 < ((M t 1) + a1)) (k1 0 M) (k1 1 M))
set_option maxHeartbeats 1000000 in
set_option maxRecDepth 20000 in
theorem ct_X8_hasRoom (l : Launch) (hl : l.stackTraces = false) (G : zG) (t : Nat) (ht : zsh t = 8) (a1 : Int32) (M : zM) : zMt l G Y_X8_hasRoom 1 [.ref (G.2.1 + t), .int a1] M (F_X8_hasRoom t a1 M) := by
  refine zMt_of (by decide +kernel) (Nat.le_of_ble_eq_true rfl) ?_
  show zEv l G Y_X8_hasRoom 1 0 0 [(0, .ref (G.2.1 + t)), (1, .int a1)] [] M (zjo (fun (w1 : Int32) (M1 : zM) => zck (zbo w1) (zI w1 M1)) (fun (k1 : Int32 → zM → zO) => zit (700 < ((M t 1) + a1)) (k1 0 M) (k1 1 M)))
  refine ev_aload_n dd_X8_hasRoom_0 0 rfl ?_
  refine ev_lv (lv' := [(1, .int a1)]) [1] rfl ?_
  refine ev_getI gf_RX8_15 dd_X8_hasRoom_1 ht (by decide) ?_
  refine ev_iload_n dd_X8_hasRoom_4 0 rfl ?_
  refine ev_lv (lv' := []) [] rfl ?_
  refine ev_iadd dd_X8_hasRoom_5 ?_
  refine ev_sipush (v := 700) dd_X8_hasRoom_6 (by decide) ?_
  refine ev_jo (fun (k1 : Int32 → zM → zO) => ∀ (w1 : Int32) (M1 : zM), zEv l G Y_X8_hasRoom 1 0 17 [] [.int w1] M1 (k1 w1 M1)) ?_ (fun k1 hk1 => ?_)
  · intro w1 M1
    exact ev_zret dd_X8_hasRoom_17 rfl (Nat.le_of_ble_eq_true rfl) rfl
  · refine ev_icmp_gt 16 dd_X8_hasRoom_9 (by decide) ?_ ?_
    · refine ev_iconst (v := 0) dd_X8_hasRoom_16 (by decide) ?_
      exact hk1 _ _
    · refine ev_iconst (v := 1) dd_X8_hasRoom_12 (by decide) ?_
      refine ev_goto 17 dd_X8_hasRoom_13 (by decide) ?_
      exact hk1 _ _
/-! X8_put -/
theorem dd_X8_put_0 : decode Y_X8_put.2.1 0 = .ok (.bipush 24, 2) := by decide +kernel
theorem dd_X8_put_2 : decode Y_X8_put.2.1 2 = .ok (.istore_n 2, 1) := by decide +kernel
theorem dd_X8_put_3 : decode Y_X8_put.2.1 3 = .ok (.iload_n 2, 1) := by decide +kernel
theorem dd_X8_put_4 : decode Y_X8_put.2.1 4 = .ok (.ifCond .lt 42, 3) := by decide +kernel
theorem dd_X8_put_7 : decode Y_X8_put.2.1 7 = .ok (.aload_n 0, 1) := by decide +kernel
theorem dd_X8_put_8 : decode Y_X8_put.2.1 8 = .ok (.getfield 15, 3) := by decide +kernel
theorem dd_X8_put_11 : decode Y_X8_put.2.1 11 = .ok (.sipush 700, 3) := by decide +kernel
theorem dd_X8_put_14 : decode Y_X8_put.2.1 14 = .ok (.if_icmp .ge 32, 3) := by decide +kernel
theorem dd_X8_put_17 : decode Y_X8_put.2.1 17 = .ok (.aload_n 0, 1) := by decide +kernel
theorem dd_X8_put_18 : decode Y_X8_put.2.1 18 = .ok (.getfield 9, 3) := by decide +kernel
theorem dd_X8_put_21 : decode Y_X8_put.2.1 21 = .ok (.aload_n 0, 1) := by decide +kernel
theorem dd_X8_put_22 : decode Y_X8_put.2.1 22 = .ok (.getfield 15, 3) := by decide +kernel
theorem dd_X8_put_25 : decode Y_X8_put.2.1 25 = .ok (.iload_n 1, 1) := by decide +kernel
theorem dd_X8_put_26 : decode Y_X8_put.2.1 26 = .ok (.iload_n 2, 1) := by decide +kernel
theorem dd_X8_put_27 : decode Y_X8_put.2.1 27 = .ok (.iushr, 1) := by decide +kernel
theorem dd_X8_put_28 : decode Y_X8_put.2.1 28 = .ok (.i2b, 1) := by decide +kernel
theorem dd_X8_put_29 : decode Y_X8_put.2.1 29 = .ok (.bastore, 1) := by decide +kernel
theorem dd_X8_put_30 : decode Y_X8_put.2.1 30 = .ok (.aload_n 0, 1) := by decide +kernel
theorem dd_X8_put_31 : decode Y_X8_put.2.1 31 = .ok (.dup, 1) := by decide +kernel
theorem dd_X8_put_32 : decode Y_X8_put.2.1 32 = .ok (.getfield 15, 3) := by decide +kernel
theorem dd_X8_put_35 : decode Y_X8_put.2.1 35 = .ok (.iconst 1, 1) := by decide +kernel
theorem dd_X8_put_36 : decode Y_X8_put.2.1 36 = .ok (.iadd, 1) := by decide +kernel
theorem dd_X8_put_37 : decode Y_X8_put.2.1 37 = .ok (.putfield 15, 3) := by decide +kernel
theorem dd_X8_put_40 : decode Y_X8_put.2.1 40 = .ok (.iinc 2 (-8), 3) := by decide +kernel
theorem dd_X8_put_43 : decode Y_X8_put.2.1 43 = .ok (.goto (-40), 3) := by decide +kernel
theorem dd_X8_put_46 : decode Y_X8_put.2.1 46 = .ok (.return_, 1) := by decide +kernel
def F_X8_put_L3 (x0 : Nat) (x1 : Int32) (K46 : zM → zO) : Nat → Int32 → zM → zO
  | 0, _, _ => none
  | n + 1, x2, M => zit (x2 < 0) (K46 M) (zit (700 ≤ (M x0 1)) (K46 M) (zck (zin (M x0 1) 700) (zst (zup M (zgr x0 0) (zix (M x0 1)) (((x1.toUInt32 >>> (x2.toUInt32 &&& Int32.toUInt32 31)).toInt32).toInt8.toInt32).toInt8.toInt32) (fun M1 => zst (zup M1 x0 1 ((M1 x0 1) + 1)) (fun M2 => F_X8_put_L3 x0 x1 K46 n (x2 + (-8)) M2)))))
def F_X8_put (t : Nat) (a1 : Int32) (M : zM) : zO := F_X8_put_L3 t a1 (fun  (M3 : zM) => zV M3) zN 24 M
set_option maxHeartbeats 1000000 in
set_option maxRecDepth 20000 in
theorem ct_X8_put_L3 (l : Launch) (hl : l.stackTraces = false) (G : zG) (x0 : Nat) (hx0 : zsh x0 = 8) (x1 : Int32) (K46 : zM → zO) (hK46 : ∀  (M : zM), zEv l G Y_X8_put 1 0 46 [] [] M (K46 M)) : ∀ (n : Nat) (x2 : Int32) (M : zM), zEv l G Y_X8_put 1 0 3 [(0, .ref (G.2.1 + x0)), (1, .int x1), (2, .int x2)] [] M (F_X8_put_L3 x0 x1 K46 n x2 M) := by
  intro n
  induction n with
  | zero => intro x2 M; exact ev_none
  | succ n ih =>
    intro x2 M
    show zEv l G Y_X8_put 1 0 3 [(0, .ref (G.2.1 + x0)), (1, .int x1), (2, .int x2)] [] M (zit (x2 < 0) (K46 M) (zit (700 ≤ (M x0 1)) (K46 M) (zck (zin (M x0 1) 700) (zst (zup M (zgr x0 0) (zix (M x0 1)) (((x1.toUInt32 >>> (x2.toUInt32 &&& Int32.toUInt32 31)).toInt32).toInt8.toInt32).toInt8.toInt32) (fun M1 => zst (zup M1 x0 1 ((M1 x0 1) + 1)) (fun M2 => F_X8_put_L3 x0 x1 K46 n (x2 + (-8)) M2))))))
    refine ev_iload_n dd_X8_put_3 2 rfl ?_
    refine ev_if_lt 46 dd_X8_put_4 (by decide) ?_ ?_
    · refine ev_lv (lv' := []) [] rfl ?_
      exact hK46 _
    · refine ev_aload_n dd_X8_put_7 0 rfl ?_
      refine ev_getI gf_RX8_15 dd_X8_put_8 hx0 (by decide) ?_
      refine ev_sipush (v := 700) dd_X8_put_11 (by decide) ?_
      refine ev_icmp_ge 46 dd_X8_put_14 (by decide) ?_ ?_
      · refine ev_lv (lv' := []) [] rfl ?_
        exact hK46 _
      · refine ev_aload_n dd_X8_put_17 0 rfl ?_
        refine ev_getR gf_RX8_9 dd_X8_put_18 hx0 (by decide) ?_
        refine ev_aload_n dd_X8_put_21 0 rfl ?_
        refine ev_getI gf_RX8_15 dd_X8_put_22 hx0 (by decide) ?_
        refine ev_iload_n dd_X8_put_25 1 rfl ?_
        refine ev_iload_n dd_X8_put_26 2 rfl ?_
        refine ev_iushr dd_X8_put_27 ?_
        refine ev_i2b dd_X8_put_28 ?_
        refine ev_bast dd_X8_put_29 ((zg_8_0 hx0).1) ((zg_8_0 hx0).2) ?_
        refine ev_st (fun M1 => ?_)
        refine ev_aload_n dd_X8_put_30 0 rfl ?_
        refine ev_dup dd_X8_put_31 rfl ?_
        refine ev_getI gf_RX8_15 dd_X8_put_32 hx0 (by decide) ?_
        refine ev_iconst (v := 1) dd_X8_put_35 (by decide) ?_
        refine ev_iadd dd_X8_put_36 ?_
        refine ev_putI gw_RX8_15 dd_X8_put_37 hx0 (by decide) ?_
        refine ev_st (fun M2 => ?_)
        refine ev_iinc (j := 2) (v := (-8)) (lv' := [(0, .ref (G.2.1 + x0)), (1, .int x1), (2, .int (x2 + (-8)))]) [1, 2, 0] dd_X8_put_40 rfl (by decide) (by decide) rfl ?_
        refine ev_goto 3 dd_X8_put_43 (by decide) ?_
        exact ih _ _
set_option maxHeartbeats 1000000 in
set_option maxRecDepth 20000 in
theorem ct_X8_put (l : Launch) (hl : l.stackTraces = false) (G : zG) (t : Nat) (ht : zsh t = 8) (a1 : Int32) (M : zM) : zMt l G Y_X8_put 1 [.ref (G.2.1 + t), .int a1] M (F_X8_put t a1 M) := by
  refine zMt_of (by decide +kernel) (Nat.le_of_ble_eq_true rfl) ?_
  show zEv l G Y_X8_put 1 0 0 [(0, .ref (G.2.1 + t)), (1, .int a1)] [] M (F_X8_put_L3 t a1 (fun  (M3 : zM) => zV M3) zN 24 M)
  refine ev_bipush (v := 24) dd_X8_put_0 (by decide) ?_
  refine ev_istore_n (i := 2) (lv' := [(0, .ref (G.2.1 + t)), (1, .int a1), (2, .int 24)]) [1, 2, 0] dd_X8_put_2 rfl (by decide) rfl ?_
  refine ct_X8_put_L3 l hl G t ht a1 _ (fun M3 => ?_) zN _ _
  exact ev_vret dd_X8_put_46 rfl (Nat.le_of_ble_eq_true rfl) rfl
/-! X11_feed -/
theorem dd_X11_feed_0 : decode Y_X11_feed.2.1 0 = .ok (.aload_n 0, 1) := by decide +kernel
theorem dd_X11_feed_1 : decode Y_X11_feed.2.1 1 = .ok (.getfield 10, 3) := by decide +kernel
theorem dd_X11_feed_4 : decode Y_X11_feed.2.1 4 = .ok (.bipush 20, 2) := by decide +kernel
theorem dd_X11_feed_6 : decode Y_X11_feed.2.1 6 = .ok (.invokevirtual 108, 3) := by decide +kernel
theorem dd_X11_feed_9 : decode Y_X11_feed.2.1 9 = .ok (.ifCond .ne 5, 3) := by decide +kernel
theorem dd_X11_feed_12 : decode Y_X11_feed.2.1 12 = .ok (.iconst (-1), 1) := by decide +kernel
theorem dd_X11_feed_13 : decode Y_X11_feed.2.1 13 = .ok (.ireturn, 1) := by decide +kernel
theorem dd_X11_feed_14 : decode Y_X11_feed.2.1 14 = .ok (.aload_n 0, 1) := by decide +kernel
theorem dd_X11_feed_15 : decode Y_X11_feed.2.1 15 = .ok (.getfield 10, 3) := by decide +kernel
theorem dd_X11_feed_18 : decode Y_X11_feed.2.1 18 = .ok (.iload_n 1, 1) := by decide +kernel
theorem dd_X11_feed_19 : decode Y_X11_feed.2.1 19 = .ok (.invokevirtual 112, 3) := by decide +kernel
theorem dd_X11_feed_22 : decode Y_X11_feed.2.1 22 = .ok (.aload_n 0, 1) := by decide +kernel
theorem dd_X11_feed_23 : decode Y_X11_feed.2.1 23 = .ok (.getfield 10, 3) := by decide +kernel
theorem dd_X11_feed_26 : decode Y_X11_feed.2.1 26 = .ok (.iload_n 2, 1) := by decide +kernel
theorem dd_X11_feed_27 : decode Y_X11_feed.2.1 27 = .ok (.invokevirtual 112, 3) := by decide +kernel
theorem dd_X11_feed_30 : decode Y_X11_feed.2.1 30 = .ok (.aload_n 0, 1) := by decide +kernel
theorem dd_X11_feed_31 : decode Y_X11_feed.2.1 31 = .ok (.getfield 10, 3) := by decide +kernel
theorem dd_X11_feed_34 : decode Y_X11_feed.2.1 34 = .ok (.iload_n 3, 1) := by decide +kernel
theorem dd_X11_feed_35 : decode Y_X11_feed.2.1 35 = .ok (.invokevirtual 112, 3) := by decide +kernel
theorem dd_X11_feed_38 : decode Y_X11_feed.2.1 38 = .ok (.aload_n 0, 1) := by decide +kernel
theorem dd_X11_feed_39 : decode Y_X11_feed.2.1 39 = .ok (.getfield 10, 3) := by decide +kernel
theorem dd_X11_feed_42 : decode Y_X11_feed.2.1 42 = .ok (.iload 4, 2) := by decide +kernel
theorem dd_X11_feed_44 : decode Y_X11_feed.2.1 44 = .ok (.invokevirtual 112, 3) := by decide +kernel
theorem dd_X11_feed_47 : decode Y_X11_feed.2.1 47 = .ok (.aload_n 0, 1) := by decide +kernel
theorem dd_X11_feed_48 : decode Y_X11_feed.2.1 48 = .ok (.getfield 10, 3) := by decide +kernel
theorem dd_X11_feed_51 : decode Y_X11_feed.2.1 51 = .ok (.iload 5, 2) := by decide +kernel
theorem dd_X11_feed_53 : decode Y_X11_feed.2.1 53 = .ok (.invokevirtual 112, 3) := by decide +kernel
theorem dd_X11_feed_56 : decode Y_X11_feed.2.1 56 = .ok (.aload_n 0, 1) := by decide +kernel
theorem dd_X11_feed_57 : decode Y_X11_feed.2.1 57 = .ok (.getfield 10, 3) := by decide +kernel
theorem dd_X11_feed_60 : decode Y_X11_feed.2.1 60 = .ok (.getfield 116, 3) := by decide +kernel
theorem dd_X11_feed_63 : decode Y_X11_feed.2.1 63 = .ok (.ireturn, 1) := by decide +kernel
def F_X11_feed (t : Nat) (a1 : Int32) (a2 : Int32) (a3 : Int32) (a4 : Int32) (a5 : Int32) (M : zM) : zO := zbI (F_X8_hasRoom (zgr t 0) 20 M) (fun r1 M1 => zit (r1 = 0) (zI (-1) M1) (zbV (F_X8_put (zgr t 0) a1 M1) (fun M2 => zbV (F_X8_put (zgr t 0) a2 M2) (fun M3 => zbV (F_X8_put (zgr t 0) a3 M3) (fun M4 => zbV (F_X8_put (zgr t 0) a4 M4) (fun M5 => zbV (F_X8_put (zgr t 0) a5 M5) (fun M6 => zI (M6 (zgr t 0) 1) M6)))))))
set_option maxHeartbeats 1000000 in
set_option maxRecDepth 20000 in
theorem ct_X11_feed (l : Launch) (hl : l.stackTraces = false) (G : zG) (t : Nat) (ht : zsh t = 11) (a1 : Int32) (a2 : Int32) (a3 : Int32) (a4 : Int32) (a5 : Int32) (M : zM) : zMt l G Y_X11_feed 2 [.ref (G.2.1 + t), .int a1, .int a2, .int a3, .int a4, .int a5] M (F_X11_feed t a1 a2 a3 a4 a5 M) := by
  refine zMt_of (by decide +kernel) (Nat.le_of_ble_eq_true rfl) ?_
  show zEv l G Y_X11_feed 2 0 0 [(0, .ref (G.2.1 + t)), (1, .int a1), (2, .int a2), (3, .int a3), (4, .int a4), (5, .int a5)] [] M (zbI (F_X8_hasRoom (zgr t 0) 20 M) (fun r1 M1 => zit (r1 = 0) (zI (-1) M1) (zbV (F_X8_put (zgr t 0) a1 M1) (fun M2 => zbV (F_X8_put (zgr t 0) a2 M2) (fun M3 => zbV (F_X8_put (zgr t 0) a3 M3) (fun M4 => zbV (F_X8_put (zgr t 0) a4 M4) (fun M5 => zbV (F_X8_put (zgr t 0) a5 M5) (fun M6 => zI (M6 (zgr t 0) 1) M6))))))))
  refine ev_aload_n dd_X11_feed_0 0 rfl ?_
  refine ev_getR gf_RX11_10 dd_X11_feed_1 ht (by decide) ?_
  refine ev_bipush (v := 20) dd_X11_feed_4 (by decide) ?_
  refine ev_callVI (As := [.int 20]) cl_RX11_108 (ct_X8_hasRoom l hl G (zgr t 0) (zg_11_0 ht) 20 M) dd_X11_feed_6 (zg_11_0 ht) (by decide) (Nat.le_of_ble_eq_true rfl) (Nat.le_of_ble_eq_true rfl) rfl rfl (fun r1 M1 => ?_)
  refine ev_if_ne 14 dd_X11_feed_9 (by decide) ?_ ?_
  · refine ev_aload_n dd_X11_feed_14 0 rfl ?_
    refine ev_getR gf_RX11_10 dd_X11_feed_15 ht (by decide) ?_
    refine ev_iload_n dd_X11_feed_18 1 rfl ?_
    refine ev_lv (lv' := [(0, .ref (G.2.1 + t)), (2, .int a2), (3, .int a3), (4, .int a4), (5, .int a5)]) [0, 2, 3, 4, 5] rfl ?_
    refine ev_callVV (As := [.int a1]) cl_RX11_112 (ct_X8_put l hl G (zgr t 0) (zg_11_0 ht) a1 M1) dd_X11_feed_19 (zg_11_0 ht) (by decide) (Nat.le_of_ble_eq_true rfl) (Nat.le_of_ble_eq_true rfl) rfl rfl (fun M2 => ?_)
    refine ev_aload_n dd_X11_feed_22 0 rfl ?_
    refine ev_getR gf_RX11_10 dd_X11_feed_23 ht (by decide) ?_
    refine ev_iload_n dd_X11_feed_26 1 rfl ?_
    refine ev_lv (lv' := [(0, .ref (G.2.1 + t)), (3, .int a3), (4, .int a4), (5, .int a5)]) [0, 2, 3, 4] rfl ?_
    refine ev_callVV (As := [.int a2]) cl_RX11_112 (ct_X8_put l hl G (zgr t 0) (zg_11_0 ht) a2 M2) dd_X11_feed_27 (zg_11_0 ht) (by decide) (Nat.le_of_ble_eq_true rfl) (Nat.le_of_ble_eq_true rfl) rfl rfl (fun M3 => ?_)
    refine ev_aload_n dd_X11_feed_30 0 rfl ?_
    refine ev_getR gf_RX11_10 dd_X11_feed_31 ht (by decide) ?_
    refine ev_iload_n dd_X11_feed_34 1 rfl ?_
    refine ev_lv (lv' := [(0, .ref (G.2.1 + t)), (4, .int a4), (5, .int a5)]) [0, 2, 3] rfl ?_
    refine ev_callVV (As := [.int a3]) cl_RX11_112 (ct_X8_put l hl G (zgr t 0) (zg_11_0 ht) a3 M3) dd_X11_feed_35 (zg_11_0 ht) (by decide) (Nat.le_of_ble_eq_true rfl) (Nat.le_of_ble_eq_true rfl) rfl rfl (fun M4 => ?_)
    refine ev_aload_n dd_X11_feed_38 0 rfl ?_
    refine ev_getR gf_RX11_10 dd_X11_feed_39 ht (by decide) ?_
    refine ev_iload dd_X11_feed_42 1 rfl ?_
    refine ev_lv (lv' := [(0, .ref (G.2.1 + t)), (5, .int a5)]) [0, 2] rfl ?_
    refine ev_callVV (As := [.int a4]) cl_RX11_112 (ct_X8_put l hl G (zgr t 0) (zg_11_0 ht) a4 M4) dd_X11_feed_44 (zg_11_0 ht) (by decide) (Nat.le_of_ble_eq_true rfl) (Nat.le_of_ble_eq_true rfl) rfl rfl (fun M5 => ?_)
    refine ev_aload_n dd_X11_feed_47 0 rfl ?_
    refine ev_getR gf_RX11_10 dd_X11_feed_48 ht (by decide) ?_
    refine ev_iload dd_X11_feed_51 1 rfl ?_
    refine ev_lv (lv' := [(0, .ref (G.2.1 + t))]) [0] rfl ?_
    refine ev_callVV (As := [.int a5]) cl_RX11_112 (ct_X8_put l hl G (zgr t 0) (zg_11_0 ht) a5 M5) dd_X11_feed_53 (zg_11_0 ht) (by decide) (Nat.le_of_ble_eq_true rfl) (Nat.le_of_ble_eq_true rfl) rfl rfl (fun M6 => ?_)
    refine ev_aload_n dd_X11_feed_56 0 rfl ?_
    refine ev_lv (lv' := []) [] rfl ?_
    refine ev_getR gf_RX11_10 dd_X11_feed_57 ht (by decide) ?_
    refine ev_getI gf_RX11_116 dd_X11_feed_60 (zg_11_0 ht) (by decide) ?_
    exact ev_iret dd_X11_feed_63 rfl (Nat.le_of_ble_eq_true rfl) rfl
  · refine ev_lv (lv' := []) [] rfl ?_
    refine ev_iconst (v := (-1)) dd_X11_feed_12 (by decide) ?_
    exact ev_iret dd_X11_feed_13 rfl (Nat.le_of_ble_eq_true rfl) rfl
/-! X11_forget -/
theorem dd_X11_forget_0 : decode Y_X11_forget.2.1 0 = .ok (.aload_n 0, 1) := by decide +kernel
theorem dd_X11_forget_1 : decode Y_X11_forget.2.1 1 = .ok (.dup, 1) := by decide +kernel
theorem dd_X11_forget_2 : decode Y_X11_forget.2.1 2 = .ok (.getfield 104, 3) := by decide +kernel
theorem dd_X11_forget_5 : decode Y_X11_forget.2.1 5 = .ok (.iconst 1, 1) := by decide +kernel
theorem dd_X11_forget_6 : decode Y_X11_forget.2.1 6 = .ok (.iadd, 1) := by decide +kernel
theorem dd_X11_forget_7 : decode Y_X11_forget.2.1 7 = .ok (.putfield 104, 3) := by decide +kernel
theorem dd_X11_forget_10 : decode Y_X11_forget.2.1 10 = .ok (.aload_n 0, 1) := by decide +kernel
theorem dd_X11_forget_11 : decode Y_X11_forget.2.1 11 = .ok (.getfield 53, 3) := by decide +kernel
theorem dd_X11_forget_14 : decode Y_X11_forget.2.1 14 = .ok (.iconst 0, 1) := by decide +kernel
theorem dd_X11_forget_15 : decode Y_X11_forget.2.1 15 = .ok (.putfield 157, 3) := by decide +kernel
theorem dd_X11_forget_18 : decode Y_X11_forget.2.1 18 = .ok (.return_, 1) := by decide +kernel
def F_X11_forget (t : Nat) (M : zM) : zO := zst (zup M t 15 ((M t 15) + 1)) (fun M1 => zst (zup M1 (zgr t 7) 1 0) (fun M2 => zV M2))
set_option maxHeartbeats 1000000 in
set_option maxRecDepth 20000 in
theorem ct_X11_forget (l : Launch) (hl : l.stackTraces = false) (G : zG) (t : Nat) (ht : zsh t = 11) (M : zM) : zMt l G Y_X11_forget 1 [.ref (G.2.1 + t)] M (F_X11_forget t M) := by
  refine zMt_of (by decide +kernel) (Nat.le_of_ble_eq_true rfl) ?_
  show zEv l G Y_X11_forget 1 0 0 [(0, .ref (G.2.1 + t))] [] M (zst (zup M t 15 ((M t 15) + 1)) (fun M1 => zst (zup M1 (zgr t 7) 1 0) (fun M2 => zV M2)))
  refine ev_aload_n dd_X11_forget_0 0 rfl ?_
  refine ev_dup dd_X11_forget_1 rfl ?_
  refine ev_getI gf_RX11_104 dd_X11_forget_2 ht (by decide) ?_
  refine ev_iconst (v := 1) dd_X11_forget_5 (by decide) ?_
  refine ev_iadd dd_X11_forget_6 ?_
  refine ev_putI gw_RX11_104 dd_X11_forget_7 ht (by decide) ?_
  refine ev_st (fun M1 => ?_)
  refine ev_aload_n dd_X11_forget_10 0 rfl ?_
  refine ev_lv (lv' := []) [] rfl ?_
  refine ev_getR gf_RX11_53 dd_X11_forget_11 ht (by decide) ?_
  refine ev_iconst (v := 0) dd_X11_forget_14 (by decide) ?_
  refine ev_putI gw_RX11_157 dd_X11_forget_15 (zg_11_7 ht) (by decide) ?_
  refine ev_st (fun M2 => ?_)
  exact ev_vret dd_X11_forget_18 rfl (Nat.le_of_ble_eq_true rfl) rfl
/-! X3_dropOldest -/
theorem dd_X3_dropOldest_0 : decode Y_X3_dropOldest.2.1 0 = .ok (.aload_n 0, 1) := by decide +kernel
theorem dd_X3_dropOldest_1 : decode Y_X3_dropOldest.2.1 1 = .ok (.bipush 39, 2) := by decide +kernel
theorem dd_X3_dropOldest_3 : decode Y_X3_dropOldest.2.1 3 = .ok (.putfield 9, 3) := by decide +kernel
theorem dd_X3_dropOldest_6 : decode Y_X3_dropOldest.2.1 6 = .ok (.aload_n 0, 1) := by decide +kernel
theorem dd_X3_dropOldest_7 : decode Y_X3_dropOldest.2.1 7 = .ok (.getfield 18, 3) := by decide +kernel
theorem dd_X3_dropOldest_10 : decode Y_X3_dropOldest.2.1 10 = .ok (.iconst 1, 1) := by decide +kernel
theorem dd_X3_dropOldest_11 : decode Y_X3_dropOldest.2.1 11 = .ok (.aload_n 0, 1) := by decide +kernel
theorem dd_X3_dropOldest_12 : decode Y_X3_dropOldest.2.1 12 = .ok (.getfield 18, 3) := by decide +kernel
theorem dd_X3_dropOldest_15 : decode Y_X3_dropOldest.2.1 15 = .ok (.iconst 0, 1) := by decide +kernel
theorem dd_X3_dropOldest_16 : decode Y_X3_dropOldest.2.1 16 = .ok (.aload_n 0, 1) := by decide +kernel
theorem dd_X3_dropOldest_17 : decode Y_X3_dropOldest.2.1 17 = .ok (.getfield 9, 3) := by decide +kernel
theorem dd_X3_dropOldest_20 : decode Y_X3_dropOldest.2.1 20 = .ok (.invokestatic 37, 3) := by decide +kernel
theorem dd_X3_dropOldest_23 : decode Y_X3_dropOldest.2.1 23 = .ok (.aload_n 0, 1) := by decide +kernel
theorem dd_X3_dropOldest_24 : decode Y_X3_dropOldest.2.1 24 = .ok (.getfield 22, 3) := by decide +kernel
theorem dd_X3_dropOldest_27 : decode Y_X3_dropOldest.2.1 27 = .ok (.iconst 1, 1) := by decide +kernel
theorem dd_X3_dropOldest_28 : decode Y_X3_dropOldest.2.1 28 = .ok (.aload_n 0, 1) := by decide +kernel
theorem dd_X3_dropOldest_29 : decode Y_X3_dropOldest.2.1 29 = .ok (.getfield 22, 3) := by decide +kernel
theorem dd_X3_dropOldest_32 : decode Y_X3_dropOldest.2.1 32 = .ok (.iconst 0, 1) := by decide +kernel
theorem dd_X3_dropOldest_33 : decode Y_X3_dropOldest.2.1 33 = .ok (.aload_n 0, 1) := by decide +kernel
theorem dd_X3_dropOldest_34 : decode Y_X3_dropOldest.2.1 34 = .ok (.getfield 9, 3) := by decide +kernel
theorem dd_X3_dropOldest_37 : decode Y_X3_dropOldest.2.1 37 = .ok (.invokestatic 37, 3) := by decide +kernel
theorem dd_X3_dropOldest_40 : decode Y_X3_dropOldest.2.1 40 = .ok (.aload_n 0, 1) := by decide +kernel
theorem dd_X3_dropOldest_41 : decode Y_X3_dropOldest.2.1 41 = .ok (.getfield 25, 3) := by decide +kernel
theorem dd_X3_dropOldest_44 : decode Y_X3_dropOldest.2.1 44 = .ok (.iconst 1, 1) := by decide +kernel
theorem dd_X3_dropOldest_45 : decode Y_X3_dropOldest.2.1 45 = .ok (.aload_n 0, 1) := by decide +kernel
theorem dd_X3_dropOldest_46 : decode Y_X3_dropOldest.2.1 46 = .ok (.getfield 25, 3) := by decide +kernel
theorem dd_X3_dropOldest_49 : decode Y_X3_dropOldest.2.1 49 = .ok (.iconst 0, 1) := by decide +kernel
theorem dd_X3_dropOldest_50 : decode Y_X3_dropOldest.2.1 50 = .ok (.aload_n 0, 1) := by decide +kernel
theorem dd_X3_dropOldest_51 : decode Y_X3_dropOldest.2.1 51 = .ok (.getfield 9, 3) := by decide +kernel
theorem dd_X3_dropOldest_54 : decode Y_X3_dropOldest.2.1 54 = .ok (.invokestatic 37, 3) := by decide +kernel
theorem dd_X3_dropOldest_57 : decode Y_X3_dropOldest.2.1 57 = .ok (.aload_n 0, 1) := by decide +kernel
theorem dd_X3_dropOldest_58 : decode Y_X3_dropOldest.2.1 58 = .ok (.getfield 28, 3) := by decide +kernel
theorem dd_X3_dropOldest_61 : decode Y_X3_dropOldest.2.1 61 = .ok (.iconst 1, 1) := by decide +kernel
theorem dd_X3_dropOldest_62 : decode Y_X3_dropOldest.2.1 62 = .ok (.aload_n 0, 1) := by decide +kernel
theorem dd_X3_dropOldest_63 : decode Y_X3_dropOldest.2.1 63 = .ok (.getfield 28, 3) := by decide +kernel
theorem dd_X3_dropOldest_66 : decode Y_X3_dropOldest.2.1 66 = .ok (.iconst 0, 1) := by decide +kernel
theorem dd_X3_dropOldest_67 : decode Y_X3_dropOldest.2.1 67 = .ok (.aload_n 0, 1) := by decide +kernel
theorem dd_X3_dropOldest_68 : decode Y_X3_dropOldest.2.1 68 = .ok (.getfield 9, 3) := by decide +kernel
theorem dd_X3_dropOldest_71 : decode Y_X3_dropOldest.2.1 71 = .ok (.invokestatic 37, 3) := by decide +kernel
theorem dd_X3_dropOldest_74 : decode Y_X3_dropOldest.2.1 74 = .ok (.return_, 1) := by decide +kernel
def F_X3_dropOldest (t : Nat) (M : zM) : zO := zst (zup M t 0 39) (fun M1 => zck (zcpk 1 0 (M1 t 0) 40 40) (zst (zupA M1 (zgr t 2) (va_cpy (M1 (zgr t 2)) (M1 (zgr t 2)) (zix 1) (zix 0) (zix (M1 t 0)))) (fun M2 => zck (zcpk 1 0 (M2 t 0) 40 40) (zst (zupA M2 (zgr t 3) (va_cpy (M2 (zgr t 3)) (M2 (zgr t 3)) (zix 1) (zix 0) (zix (M2 t 0)))) (fun M3 => zck (zcpk 1 0 (M3 t 0) 40 40) (zst (zupA M3 (zgr t 4) (va_cpy (M3 (zgr t 4)) (M3 (zgr t 4)) (zix 1) (zix 0) (zix (M3 t 0)))) (fun M4 => zck (zcpk 1 0 (M4 t 0) 40 40) (zst (zupA M4 (zgr t 5) (va_cpy (M4 (zgr t 5)) (M4 (zgr t 5)) (zix 1) (zix 0) (zix (M4 t 0)))) (fun M5 => zV M5)))))))))
set_option maxHeartbeats 1000000 in
set_option maxRecDepth 20000 in
theorem ct_X3_dropOldest (l : Launch) (hl : l.stackTraces = false) (G : zG) (t : Nat) (ht : zsh t = 3) (M : zM) : zMt l G Y_X3_dropOldest 8 [.ref (G.2.1 + t)] M (F_X3_dropOldest t M) := by
  refine zMt_of (by decide +kernel) (Nat.le_of_ble_eq_true rfl) ?_
  show zEv l G Y_X3_dropOldest 8 0 0 [(0, .ref (G.2.1 + t))] [] M (zst (zup M t 0 39) (fun M1 => zck (zcpk 1 0 (M1 t 0) 40 40) (zst (zupA M1 (zgr t 2) (va_cpy (M1 (zgr t 2)) (M1 (zgr t 2)) (zix 1) (zix 0) (zix (M1 t 0)))) (fun M2 => zck (zcpk 1 0 (M2 t 0) 40 40) (zst (zupA M2 (zgr t 3) (va_cpy (M2 (zgr t 3)) (M2 (zgr t 3)) (zix 1) (zix 0) (zix (M2 t 0)))) (fun M3 => zck (zcpk 1 0 (M3 t 0) 40 40) (zst (zupA M3 (zgr t 4) (va_cpy (M3 (zgr t 4)) (M3 (zgr t 4)) (zix 1) (zix 0) (zix (M3 t 0)))) (fun M4 => zck (zcpk 1 0 (M4 t 0) 40 40) (zst (zupA M4 (zgr t 5) (va_cpy (M4 (zgr t 5)) (M4 (zgr t 5)) (zix 1) (zix 0) (zix (M4 t 0)))) (fun M5 => zV M5))))))))))
  refine ev_aload_n dd_X3_dropOldest_0 0 rfl ?_
  refine ev_bipush (v := 39) dd_X3_dropOldest_1 (by decide) ?_
  refine ev_putI gw_RX3_9 dd_X3_dropOldest_3 ht (by decide) ?_
  refine ev_st (fun M1 => ?_)
  refine ev_aload_n dd_X3_dropOldest_6 0 rfl ?_
  refine ev_getR gf_RX3_18 dd_X3_dropOldest_7 ht (by decide) ?_
  refine ev_iconst (v := 1) dd_X3_dropOldest_10 (by decide) ?_
  refine ev_aload_n dd_X3_dropOldest_11 0 rfl ?_
  refine ev_getR gf_RX3_18 dd_X3_dropOldest_12 ht (by decide) ?_
  refine ev_iconst (v := 0) dd_X3_dropOldest_15 (by decide) ?_
  refine ev_aload_n dd_X3_dropOldest_16 0 rfl ?_
  refine ev_getI gf_RX3_9 dd_X3_dropOldest_17 ht (by decide) ?_
  refine ev_copyi cw_RX3_37 dd_X3_dropOldest_20 ((zg_3_2 ht).1) ((zg_3_2 ht).2) ((zg_3_2 ht).1) ((zg_3_2 ht).2) (Nat.le_of_ble_eq_true rfl) ?_
  refine ev_st (fun M2 => ?_)
  refine ev_aload_n dd_X3_dropOldest_23 0 rfl ?_
  refine ev_getR gf_RX3_22 dd_X3_dropOldest_24 ht (by decide) ?_
  refine ev_iconst (v := 1) dd_X3_dropOldest_27 (by decide) ?_
  refine ev_aload_n dd_X3_dropOldest_28 0 rfl ?_
  refine ev_getR gf_RX3_22 dd_X3_dropOldest_29 ht (by decide) ?_
  refine ev_iconst (v := 0) dd_X3_dropOldest_32 (by decide) ?_
  refine ev_aload_n dd_X3_dropOldest_33 0 rfl ?_
  refine ev_getI gf_RX3_9 dd_X3_dropOldest_34 ht (by decide) ?_
  refine ev_copyi cw_RX3_37 dd_X3_dropOldest_37 ((zg_3_3 ht).1) ((zg_3_3 ht).2) ((zg_3_3 ht).1) ((zg_3_3 ht).2) (Nat.le_of_ble_eq_true rfl) ?_
  refine ev_st (fun M3 => ?_)
  refine ev_aload_n dd_X3_dropOldest_40 0 rfl ?_
  refine ev_getR gf_RX3_25 dd_X3_dropOldest_41 ht (by decide) ?_
  refine ev_iconst (v := 1) dd_X3_dropOldest_44 (by decide) ?_
  refine ev_aload_n dd_X3_dropOldest_45 0 rfl ?_
  refine ev_getR gf_RX3_25 dd_X3_dropOldest_46 ht (by decide) ?_
  refine ev_iconst (v := 0) dd_X3_dropOldest_49 (by decide) ?_
  refine ev_aload_n dd_X3_dropOldest_50 0 rfl ?_
  refine ev_getI gf_RX3_9 dd_X3_dropOldest_51 ht (by decide) ?_
  refine ev_copyi cw_RX3_37 dd_X3_dropOldest_54 ((zg_3_4 ht).1) ((zg_3_4 ht).2) ((zg_3_4 ht).1) ((zg_3_4 ht).2) (Nat.le_of_ble_eq_true rfl) ?_
  refine ev_st (fun M4 => ?_)
  refine ev_aload_n dd_X3_dropOldest_57 0 rfl ?_
  refine ev_getR gf_RX3_28 dd_X3_dropOldest_58 ht (by decide) ?_
  refine ev_iconst (v := 1) dd_X3_dropOldest_61 (by decide) ?_
  refine ev_aload_n dd_X3_dropOldest_62 0 rfl ?_
  refine ev_getR gf_RX3_28 dd_X3_dropOldest_63 ht (by decide) ?_
  refine ev_iconst (v := 0) dd_X3_dropOldest_66 (by decide) ?_
  refine ev_aload_n dd_X3_dropOldest_67 0 rfl ?_
  refine ev_lv (lv' := []) [] rfl ?_
  refine ev_getI gf_RX3_9 dd_X3_dropOldest_68 ht (by decide) ?_
  refine ev_copyi cw_RX3_37 dd_X3_dropOldest_71 ((zg_3_5 ht).1) ((zg_3_5 ht).2) ((zg_3_5 ht).1) ((zg_3_5 ht).2) (Nat.le_of_ble_eq_true rfl) ?_
  refine ev_st (fun M5 => ?_)
  exact ev_vret dd_X3_dropOldest_74 rfl (Nat.le_of_ble_eq_true rfl) rfl
/-! X3_add -/
theorem dd_X3_add_0 : decode Y_X3_add.2.1 0 = .ok (.aload_n 0, 1) := by decide +kernel
theorem dd_X3_add_1 : decode Y_X3_add.2.1 1 = .ok (.getfield 9, 3) := by decide +kernel
theorem dd_X3_add_4 : decode Y_X3_add.2.1 4 = .ok (.bipush 40, 2) := by decide +kernel
theorem dd_X3_add_6 : decode Y_X3_add.2.1 6 = .ok (.if_icmp .lt 7, 3) := by decide +kernel
theorem dd_X3_add_9 : decode Y_X3_add.2.1 9 = .ok (.aload_n 0, 1) := by decide +kernel
theorem dd_X3_add_10 : decode Y_X3_add.2.1 10 = .ok (.invokevirtual 43, 3) := by decide +kernel
theorem dd_X3_add_13 : decode Y_X3_add.2.1 13 = .ok (.aload_n 0, 1) := by decide +kernel
theorem dd_X3_add_14 : decode Y_X3_add.2.1 14 = .ok (.getfield 18, 3) := by decide +kernel
theorem dd_X3_add_17 : decode Y_X3_add.2.1 17 = .ok (.aload_n 0, 1) := by decide +kernel
theorem dd_X3_add_18 : decode Y_X3_add.2.1 18 = .ok (.getfield 9, 3) := by decide +kernel
theorem dd_X3_add_21 : decode Y_X3_add.2.1 21 = .ok (.iload_n 1, 1) := by decide +kernel
theorem dd_X3_add_22 : decode Y_X3_add.2.1 22 = .ok (.iastore, 1) := by decide +kernel
theorem dd_X3_add_23 : decode Y_X3_add.2.1 23 = .ok (.aload_n 0, 1) := by decide +kernel
theorem dd_X3_add_24 : decode Y_X3_add.2.1 24 = .ok (.getfield 22, 3) := by decide +kernel
theorem dd_X3_add_27 : decode Y_X3_add.2.1 27 = .ok (.aload_n 0, 1) := by decide +kernel
theorem dd_X3_add_28 : decode Y_X3_add.2.1 28 = .ok (.getfield 9, 3) := by decide +kernel
theorem dd_X3_add_31 : decode Y_X3_add.2.1 31 = .ok (.iload_n 2, 1) := by decide +kernel
theorem dd_X3_add_32 : decode Y_X3_add.2.1 32 = .ok (.iastore, 1) := by decide +kernel
theorem dd_X3_add_33 : decode Y_X3_add.2.1 33 = .ok (.aload_n 0, 1) := by decide +kernel
theorem dd_X3_add_34 : decode Y_X3_add.2.1 34 = .ok (.getfield 25, 3) := by decide +kernel
theorem dd_X3_add_37 : decode Y_X3_add.2.1 37 = .ok (.aload_n 0, 1) := by decide +kernel
theorem dd_X3_add_38 : decode Y_X3_add.2.1 38 = .ok (.getfield 9, 3) := by decide +kernel
theorem dd_X3_add_41 : decode Y_X3_add.2.1 41 = .ok (.iload_n 3, 1) := by decide +kernel
theorem dd_X3_add_42 : decode Y_X3_add.2.1 42 = .ok (.iastore, 1) := by decide +kernel
theorem dd_X3_add_43 : decode Y_X3_add.2.1 43 = .ok (.aload_n 0, 1) := by decide +kernel
theorem dd_X3_add_44 : decode Y_X3_add.2.1 44 = .ok (.getfield 28, 3) := by decide +kernel
theorem dd_X3_add_47 : decode Y_X3_add.2.1 47 = .ok (.aload_n 0, 1) := by decide +kernel
theorem dd_X3_add_48 : decode Y_X3_add.2.1 48 = .ok (.getfield 9, 3) := by decide +kernel
theorem dd_X3_add_51 : decode Y_X3_add.2.1 51 = .ok (.iload 4, 2) := by decide +kernel
theorem dd_X3_add_53 : decode Y_X3_add.2.1 53 = .ok (.iastore, 1) := by decide +kernel
theorem dd_X3_add_54 : decode Y_X3_add.2.1 54 = .ok (.aload_n 0, 1) := by decide +kernel
theorem dd_X3_add_55 : decode Y_X3_add.2.1 55 = .ok (.dup, 1) := by decide +kernel
theorem dd_X3_add_56 : decode Y_X3_add.2.1 56 = .ok (.getfield 9, 3) := by decide +kernel
theorem dd_X3_add_59 : decode Y_X3_add.2.1 59 = .ok (.iconst 1, 1) := by decide +kernel
theorem dd_X3_add_60 : decode Y_X3_add.2.1 60 = .ok (.iadd, 1) := by decide +kernel
theorem dd_X3_add_61 : decode Y_X3_add.2.1 61 = .ok (.putfield 9, 3) := by decide +kernel
theorem dd_X3_add_64 : decode Y_X3_add.2.1 64 = .ok (.return_, 1) := by decide +kernel
def F_X3_add (t : Nat) (a1 : Int32) (a2 : Int32) (a3 : Int32) (a4 : Int32) (M : zM) : zO := zjo (fun  (M2 : zM) => zck (zin (M2 t 0) 40) (zst (zup M2 (zgr t 2) (zix (M2 t 0)) a1) (fun M3 => zck (zin (M3 t 0) 40) (zst (zup M3 (zgr t 3) (zix (M3 t 0)) a2) (fun M4 => zck (zin (M4 t 0) 40) (zst (zup M4 (zgr t 4) (zix (M4 t 0)) a3) (fun M5 => zck (zin (M5 t 0) 40) (zst (zup M5 (zgr t 5) (zix (M5 t 0)) a4) (fun M6 => zst (zup M6 t 0 ((M6 t 0) + 1)) (fun M7 => zV M7)))))))))) (fun (k1 : zM → zO) => zit ((M t 0) < 40) (k1 M) (zbV (F_X3_dropOldest t M) (fun M1 => k1 M1)))
set_option maxHeartbeats 1000000 in
set_option maxRecDepth 20000 in
theorem ct_X3_add (l : Launch) (hl : l.stackTraces = false) (G : zG) (t : Nat) (ht : zsh t = 3) (a1 : Int32) (a2 : Int32) (a3 : Int32) (a4 : Int32) (M : zM) : zMt l G Y_X3_add 9 [.ref (G.2.1 + t), .int a1, .int a2, .int a3, .int a4] M (F_X3_add t a1 a2 a3 a4 M) := by
  refine zMt_of (by decide +kernel) (Nat.le_of_ble_eq_true rfl) ?_
  show zEv l G Y_X3_add 9 0 0 [(0, .ref (G.2.1 + t)), (1, .int a1), (2, .int a2), (3, .int a3), (4, .int a4)] [] M (zjo (fun  (M2 : zM) => zck (zin (M2 t 0) 40) (zst (zup M2 (zgr t 2) (zix (M2 t 0)) a1) (fun M3 => zck (zin (M3 t 0) 40) (zst (zup M3 (zgr t 3) (zix (M3 t 0)) a2) (fun M4 => zck (zin (M4 t 0) 40) (zst (zup M4 (zgr t 4) (zix (M4 t 0)) a3) (fun M5 => zck (zin (M5 t 0) 40) (zst (zup M5 (zgr t 5) (zix (M5 t 0)) a4) (fun M6 => zst (zup M6 t 0 ((M6 t 0) + 1)) (fun M7 => zV M7)))))))))) (fun (k1 : zM → zO) => zit ((M t 0) < 40) (k1 M) (zbV (F_X3_dropOldest t M) (fun M1 => k1 M1))))
  refine ev_aload_n dd_X3_add_0 0 rfl ?_
  refine ev_getI gf_RX3_9 dd_X3_add_1 ht (by decide) ?_
  refine ev_bipush (v := 40) dd_X3_add_4 (by decide) ?_
  refine ev_jo (fun (k1 : zM → zO) => ∀  (M2 : zM), zEv l G Y_X3_add 9 0 13 [(0, .ref (G.2.1 + t)), (1, .int a1), (2, .int a2), (3, .int a3), (4, .int a4)] [] M2 (k1 M2)) ?_ (fun k1 hk1 => ?_)
  · intro M2
    refine ev_aload_n dd_X3_add_13 0 rfl ?_
    refine ev_getR gf_RX3_18 dd_X3_add_14 ht (by decide) ?_
    refine ev_aload_n dd_X3_add_17 0 rfl ?_
    refine ev_getI gf_RX3_9 dd_X3_add_18 ht (by decide) ?_
    refine ev_iload_n dd_X3_add_21 1 rfl ?_
    refine ev_lv (lv' := [(0, .ref (G.2.1 + t)), (2, .int a2), (3, .int a3), (4, .int a4)]) [0, 2, 3, 4] rfl ?_
    refine ev_iast dd_X3_add_22 ((zg_3_2 ht).1) ((zg_3_2 ht).2) ?_
    refine ev_st (fun M3 => ?_)
    refine ev_aload_n dd_X3_add_23 0 rfl ?_
    refine ev_getR gf_RX3_22 dd_X3_add_24 ht (by decide) ?_
    refine ev_aload_n dd_X3_add_27 0 rfl ?_
    refine ev_getI gf_RX3_9 dd_X3_add_28 ht (by decide) ?_
    refine ev_iload_n dd_X3_add_31 1 rfl ?_
    refine ev_lv (lv' := [(0, .ref (G.2.1 + t)), (3, .int a3), (4, .int a4)]) [0, 2, 3] rfl ?_
    refine ev_iast dd_X3_add_32 ((zg_3_3 ht).1) ((zg_3_3 ht).2) ?_
    refine ev_st (fun M4 => ?_)
    refine ev_aload_n dd_X3_add_33 0 rfl ?_
    refine ev_getR gf_RX3_25 dd_X3_add_34 ht (by decide) ?_
    refine ev_aload_n dd_X3_add_37 0 rfl ?_
    refine ev_getI gf_RX3_9 dd_X3_add_38 ht (by decide) ?_
    refine ev_iload_n dd_X3_add_41 1 rfl ?_
    refine ev_lv (lv' := [(0, .ref (G.2.1 + t)), (4, .int a4)]) [0, 2] rfl ?_
    refine ev_iast dd_X3_add_42 ((zg_3_4 ht).1) ((zg_3_4 ht).2) ?_
    refine ev_st (fun M5 => ?_)
    refine ev_aload_n dd_X3_add_43 0 rfl ?_
    refine ev_getR gf_RX3_28 dd_X3_add_44 ht (by decide) ?_
    refine ev_aload_n dd_X3_add_47 0 rfl ?_
    refine ev_getI gf_RX3_9 dd_X3_add_48 ht (by decide) ?_
    refine ev_iload dd_X3_add_51 1 rfl ?_
    refine ev_lv (lv' := [(0, .ref (G.2.1 + t))]) [0] rfl ?_
    refine ev_iast dd_X3_add_53 ((zg_3_5 ht).1) ((zg_3_5 ht).2) ?_
    refine ev_st (fun M6 => ?_)
    refine ev_aload_n dd_X3_add_54 0 rfl ?_
    refine ev_lv (lv' := []) [] rfl ?_
    refine ev_dup dd_X3_add_55 rfl ?_
    refine ev_getI gf_RX3_9 dd_X3_add_56 ht (by decide) ?_
    refine ev_iconst (v := 1) dd_X3_add_59 (by decide) ?_
    refine ev_iadd dd_X3_add_60 ?_
    refine ev_putI gw_RX3_9 dd_X3_add_61 ht (by decide) ?_
    refine ev_st (fun M7 => ?_)
    exact ev_vret dd_X3_add_64 rfl (Nat.le_of_ble_eq_true rfl) rfl
  · refine ev_icmp_lt 13 dd_X3_add_6 (by decide) ?_ ?_
    · exact hk1 _
    · refine ev_aload_n dd_X3_add_9 0 rfl ?_
      refine ev_callVV (As := []) cl_RX3_43 (ct_X3_dropOldest l hl G t ht M) dd_X3_add_10 ht (by decide) (Nat.le_of_ble_eq_true rfl) (Nat.le_of_ble_eq_true rfl) rfl rfl (fun M1 => ?_)
      exact hk1 _
/-! X11_forgive -/
theorem dd_X11_forgive_0 : decode Y_X11_forgive.2.1 0 = .ok (.aload_n 0, 1) := by decide +kernel
theorem dd_X11_forgive_1 : decode Y_X11_forgive.2.1 1 = .ok (.iload_n 1, 1) := by decide +kernel
theorem dd_X11_forgive_2 : decode Y_X11_forgive.2.1 2 = .ok (.iload_n 2, 1) := by decide +kernel
theorem dd_X11_forgive_3 : decode Y_X11_forgive.2.1 3 = .ok (.invokevirtual 209, 3) := by decide +kernel
theorem dd_X11_forgive_6 : decode Y_X11_forgive.2.1 6 = .ok (.aload_n 0, 1) := by decide +kernel
theorem dd_X11_forgive_7 : decode Y_X11_forgive.2.1 7 = .ok (.dup, 1) := by decide +kernel
theorem dd_X11_forgive_8 : decode Y_X11_forgive.2.1 8 = .ok (.getfield 104, 3) := by decide +kernel
theorem dd_X11_forgive_11 : decode Y_X11_forgive.2.1 11 = .ok (.iconst 1, 1) := by decide +kernel
theorem dd_X11_forgive_12 : decode Y_X11_forgive.2.1 12 = .ok (.iadd, 1) := by decide +kernel
theorem dd_X11_forgive_13 : decode Y_X11_forgive.2.1 13 = .ok (.putfield 104, 3) := by decide +kernel
theorem dd_X11_forgive_16 : decode Y_X11_forgive.2.1 16 = .ok (.aload_n 0, 1) := by decide +kernel
theorem dd_X11_forgive_17 : decode Y_X11_forgive.2.1 17 = .ok (.getfield 40, 3) := by decide +kernel
theorem dd_X11_forgive_20 : decode Y_X11_forgive.2.1 20 = .ok (.iload_n 1, 1) := by decide +kernel
theorem dd_X11_forgive_21 : decode Y_X11_forgive.2.1 21 = .ok (.iload_n 2, 1) := by decide +kernel
theorem dd_X11_forgive_22 : decode Y_X11_forgive.2.1 22 = .ok (.invokevirtual 212, 3) := by decide +kernel
theorem dd_X11_forgive_25 : decode Y_X11_forgive.2.1 25 = .ok (.istore_n 3, 1) := by decide +kernel
theorem dd_X11_forgive_26 : decode Y_X11_forgive.2.1 26 = .ok (.aload_n 0, 1) := by decide +kernel
theorem dd_X11_forgive_27 : decode Y_X11_forgive.2.1 27 = .ok (.getfield 53, 3) := by decide +kernel
theorem dd_X11_forgive_30 : decode Y_X11_forgive.2.1 30 = .ok (.iconst 2, 1) := by decide +kernel
theorem dd_X11_forgive_31 : decode Y_X11_forgive.2.1 31 = .ok (.iload_n 1, 1) := by decide +kernel
theorem dd_X11_forgive_32 : decode Y_X11_forgive.2.1 32 = .ok (.iload_n 2, 1) := by decide +kernel
theorem dd_X11_forgive_33 : decode Y_X11_forgive.2.1 33 = .ok (.iload_n 3, 1) := by decide +kernel
theorem dd_X11_forgive_34 : decode Y_X11_forgive.2.1 34 = .ok (.invokevirtual 219, 3) := by decide +kernel
theorem dd_X11_forgive_37 : decode Y_X11_forgive.2.1 37 = .ok (.aload_n 0, 1) := by decide +kernel
theorem dd_X11_forgive_38 : decode Y_X11_forgive.2.1 38 = .ok (.getfield 40, 3) := by decide +kernel
theorem dd_X11_forgive_41 : decode Y_X11_forgive.2.1 41 = .ok (.iload_n 1, 1) := by decide +kernel
theorem dd_X11_forgive_42 : decode Y_X11_forgive.2.1 42 = .ok (.iload_n 2, 1) := by decide +kernel
theorem dd_X11_forgive_43 : decode Y_X11_forgive.2.1 43 = .ok (.iconst 0, 1) := by decide +kernel
theorem dd_X11_forgive_44 : decode Y_X11_forgive.2.1 44 = .ok (.invokevirtual 234, 3) := by decide +kernel
theorem dd_X11_forgive_47 : decode Y_X11_forgive.2.1 47 = .ok (.iload_n 3, 1) := by decide +kernel
theorem dd_X11_forgive_48 : decode Y_X11_forgive.2.1 48 = .ok (.ireturn, 1) := by decide +kernel
def F_X11_forgive (t : Nat) (a1 : Int32) (a2 : Int32) (M : zM) : zO := zbV (F_X11_needTwo t a1 a2 M) (fun M1 => zst (zup M1 t 15 ((M1 t 15) + 1)) (fun M2 => zbI (F_X10_owes (zgr t 4) a1 a2 M2) (fun r1 M3 => zbV (F_X3_add (zgr t 7) 2 a1 a2 r1 M3) (fun M4 => zbV (F_X10_setDebt (zgr t 4) a1 a2 0 M4) (fun M5 => zI r1 M5)))))
set_option maxHeartbeats 1000000 in
set_option maxRecDepth 20000 in
theorem ct_X11_forgive (l : Launch) (hl : l.stackTraces = false) (G : zG) (t : Nat) (ht : zsh t = 11) (a1 : Int32) (a2 : Int32) (M : zM) : zMt l G Y_X11_forgive 10 [.ref (G.2.1 + t), .int a1, .int a2] M (F_X11_forgive t a1 a2 M) := by
  refine zMt_of (by decide +kernel) (Nat.le_of_ble_eq_true rfl) ?_
  show zEv l G Y_X11_forgive 10 0 0 [(0, .ref (G.2.1 + t)), (1, .int a1), (2, .int a2)] [] M (zbV (F_X11_needTwo t a1 a2 M) (fun M1 => zst (zup M1 t 15 ((M1 t 15) + 1)) (fun M2 => zbI (F_X10_owes (zgr t 4) a1 a2 M2) (fun r1 M3 => zbV (F_X3_add (zgr t 7) 2 a1 a2 r1 M3) (fun M4 => zbV (F_X10_setDebt (zgr t 4) a1 a2 0 M4) (fun M5 => zI r1 M5))))))
  refine ev_aload_n dd_X11_forgive_0 0 rfl ?_
  refine ev_iload_n dd_X11_forgive_1 1 rfl ?_
  refine ev_iload_n dd_X11_forgive_2 2 rfl ?_
  refine ev_callVV (As := [.int a1, .int a2]) cl_RX11_209 (ct_X11_needTwo l hl G t ht a1 a2 M) dd_X11_forgive_3 ht (by decide) (Nat.le_of_ble_eq_true rfl) (Nat.le_of_ble_eq_true rfl) rfl rfl (fun M1 => ?_)
  refine ev_aload_n dd_X11_forgive_6 0 rfl ?_
  refine ev_dup dd_X11_forgive_7 rfl ?_
  refine ev_getI gf_RX11_104 dd_X11_forgive_8 ht (by decide) ?_
  refine ev_iconst (v := 1) dd_X11_forgive_11 (by decide) ?_
  refine ev_iadd dd_X11_forgive_12 ?_
  refine ev_putI gw_RX11_104 dd_X11_forgive_13 ht (by decide) ?_
  refine ev_st (fun M2 => ?_)
  refine ev_aload_n dd_X11_forgive_16 0 rfl ?_
  refine ev_getR gf_RX11_40 dd_X11_forgive_17 ht (by decide) ?_
  refine ev_iload_n dd_X11_forgive_20 1 rfl ?_
  refine ev_iload_n dd_X11_forgive_21 2 rfl ?_
  refine ev_callVI (As := [.int a1, .int a2]) cl_RX11_212 (ct_X10_owes l hl G (zgr t 4) (zg_11_4 ht) a1 a2 M2) dd_X11_forgive_22 (zg_11_4 ht) (by decide) (Nat.le_of_ble_eq_true rfl) (Nat.le_of_ble_eq_true rfl) rfl rfl (fun r1 M3 => ?_)
  refine ev_istore_n (i := 3) (lv' := [(0, .ref (G.2.1 + t)), (1, .int a1), (2, .int a2), (3, .int r1)]) [1, 2, 3, 0] dd_X11_forgive_25 rfl (by decide) rfl ?_
  refine ev_aload_n dd_X11_forgive_26 0 rfl ?_
  refine ev_getR gf_RX11_53 dd_X11_forgive_27 ht (by decide) ?_
  refine ev_iconst (v := 2) dd_X11_forgive_30 (by decide) ?_
  refine ev_iload_n dd_X11_forgive_31 1 rfl ?_
  refine ev_iload_n dd_X11_forgive_32 2 rfl ?_
  refine ev_iload_n dd_X11_forgive_33 3 rfl ?_
  refine ev_callVV (As := [.int 2, .int a1, .int a2, .int r1]) cl_RX11_219 (ct_X3_add l hl G (zgr t 7) (zg_11_7 ht) 2 a1 a2 r1 M3) dd_X11_forgive_34 (zg_11_7 ht) (by decide) (Nat.le_of_ble_eq_true rfl) (Nat.le_of_ble_eq_true rfl) rfl rfl (fun M4 => ?_)
  refine ev_aload_n dd_X11_forgive_37 0 rfl ?_
  refine ev_lv (lv' := [(1, .int a1), (2, .int a2), (3, .int r1)]) [1, 2, 3] rfl ?_
  refine ev_getR gf_RX11_40 dd_X11_forgive_38 ht (by decide) ?_
  refine ev_iload_n dd_X11_forgive_41 0 rfl ?_
  refine ev_lv (lv' := [(2, .int a2), (3, .int r1)]) [1, 2] rfl ?_
  refine ev_iload_n dd_X11_forgive_42 0 rfl ?_
  refine ev_lv (lv' := [(3, .int r1)]) [1] rfl ?_
  refine ev_iconst (v := 0) dd_X11_forgive_43 (by decide) ?_
  refine ev_callVV (As := [.int a1, .int a2, .int 0]) cl_RX11_234 (ct_X10_setDebt l hl G (zgr t 4) (zg_11_4 ht) a1 a2 0 M4) dd_X11_forgive_44 (zg_11_4 ht) (by decide) (Nat.le_of_ble_eq_true rfl) (Nat.le_of_ble_eq_true rfl) rfl rfl (fun M5 => ?_)
  refine ev_iload_n dd_X11_forgive_47 0 rfl ?_
  refine ev_lv (lv' := []) [] rfl ?_
  exact ev_iret dd_X11_forgive_48 rfl (Nat.le_of_ble_eq_true rfl) rfl
