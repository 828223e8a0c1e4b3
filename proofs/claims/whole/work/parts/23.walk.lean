/-! F functions and walks, by program (gen.py, mkparts.py) -/
/-! X11_owed -/
theorem dd_X11_owed_0 : decode Y_X11_owed.2.1 0 = .ok (.iload_n 1, 1) := by decide +kernel
theorem dd_X11_owed_1 : decode Y_X11_owed.2.1 1 = .ok (.invokestatic 245, 3) := by decide +kernel
theorem dd_X11_owed_4 : decode Y_X11_owed.2.1 4 = .ok (.iconst 0, 1) := by decide +kernel
theorem dd_X11_owed_5 : decode Y_X11_owed.2.1 5 = .ok (.istore_n 2, 1) := by decide +kernel
theorem dd_X11_owed_6 : decode Y_X11_owed.2.1 6 = .ok (.iconst (-1), 1) := by decide +kernel
theorem dd_X11_owed_7 : decode Y_X11_owed.2.1 7 = .ok (.istore_n 3, 1) := by decide +kernel
theorem dd_X11_owed_8 : decode Y_X11_owed.2.1 8 = .ok (.iconst 0, 1) := by decide +kernel
theorem dd_X11_owed_9 : decode Y_X11_owed.2.1 9 = .ok (.istore 4, 2) := by decide +kernel
theorem dd_X11_owed_11 : decode Y_X11_owed.2.1 11 = .ok (.iload 4, 2) := by decide +kernel
theorem dd_X11_owed_13 : decode Y_X11_owed.2.1 13 = .ok (.aload_n 0, 1) := by decide +kernel
theorem dd_X11_owed_14 : decode Y_X11_owed.2.1 14 = .ok (.getfield 19, 3) := by decide +kernel
theorem dd_X11_owed_17 : decode Y_X11_owed.2.1 17 = .ok (.getfield 142, 3) := by decide +kernel
theorem dd_X11_owed_20 : decode Y_X11_owed.2.1 20 = .ok (.if_icmp .ge 32, 3) := by decide +kernel
theorem dd_X11_owed_23 : decode Y_X11_owed.2.1 23 = .ok (.aload_n 0, 1) := by decide +kernel
theorem dd_X11_owed_24 : decode Y_X11_owed.2.1 24 = .ok (.getfield 40, 3) := by decide +kernel
theorem dd_X11_owed_27 : decode Y_X11_owed.2.1 27 = .ok (.iload 4, 2) := by decide +kernel
theorem dd_X11_owed_29 : decode Y_X11_owed.2.1 29 = .ok (.invokevirtual 359, 3) := by decide +kernel
theorem dd_X11_owed_32 : decode Y_X11_owed.2.1 32 = .ok (.istore 5, 2) := by decide +kernel
theorem dd_X11_owed_34 : decode Y_X11_owed.2.1 34 = .ok (.iload 5, 2) := by decide +kernel
theorem dd_X11_owed_36 : decode Y_X11_owed.2.1 36 = .ok (.iload_n 2, 1) := by decide +kernel
theorem dd_X11_owed_37 : decode Y_X11_owed.2.1 37 = .ok (.if_icmp .le 9, 3) := by decide +kernel
theorem dd_X11_owed_40 : decode Y_X11_owed.2.1 40 = .ok (.iload 5, 2) := by decide +kernel
theorem dd_X11_owed_42 : decode Y_X11_owed.2.1 42 = .ok (.istore_n 2, 1) := by decide +kernel
theorem dd_X11_owed_43 : decode Y_X11_owed.2.1 43 = .ok (.iload 4, 2) := by decide +kernel
theorem dd_X11_owed_45 : decode Y_X11_owed.2.1 45 = .ok (.istore_n 3, 1) := by decide +kernel
theorem dd_X11_owed_46 : decode Y_X11_owed.2.1 46 = .ok (.iinc 4 1, 3) := by decide +kernel
theorem dd_X11_owed_49 : decode Y_X11_owed.2.1 49 = .ok (.goto (-38), 3) := by decide +kernel
theorem dd_X11_owed_52 : decode Y_X11_owed.2.1 52 = .ok (.iload_n 1, 1) := by decide +kernel
theorem dd_X11_owed_53 : decode Y_X11_owed.2.1 53 = .ok (.ifCond .ne 7, 3) := by decide +kernel
theorem dd_X11_owed_56 : decode Y_X11_owed.2.1 56 = .ok (.iload_n 3, 1) := by decide +kernel
theorem dd_X11_owed_57 : decode Y_X11_owed.2.1 57 = .ok (.goto 4, 3) := by decide +kernel
theorem dd_X11_owed_60 : decode Y_X11_owed.2.1 60 = .ok (.iload_n 2, 1) := by decide +kernel
theorem dd_X11_owed_61 : decode Y_X11_owed.2.1 61 = .ok (.ireturn, 1) := by decide +kernel
def F_X11_owed_L11 (x0 : Nat) (x1 : Int32) (K52 : Int32 → Int32 → zM → zO) : Nat → Int32 → Int32 → Int32 → zM → zO
  | 0, _, _, _, _ => none
  | n + 1, x2, x3, x4, M => zit ((M (zgr x0 1) 0) ≤ x4) (K52 x2 x3 M) (zbI (F_X10_owedTo (zgr x0 4) x4 M) (fun r1 M2 => zjo (fun (w1 : Int32) (w2 : Int32) (M3 : zM) => F_X11_owed_L11 x0 x1 K52 n w1 w2 (x4 + 1) M3) (fun (k1 : Int32 → Int32 → zM → zO) => zit (r1 ≤ x2) (k1 x2 x3 M2) (k1 r1 x4 M2))))
def F_X11_owed (t : Nat) (a1 : Int32) (M : zM) : zO := zbV (F_X11_needFirstOrCount a1 M) (fun M1 => F_X11_owed_L11 t a1 (fun (y1 : Int32) (y2 : Int32) (M4 : zM) => zjo (fun (w3 : Int32) (M5 : zM) => zI w3 M5) (fun (k2 : Int32 → zM → zO) => zit (a1 = 0) (k2 y2 M4) (k2 y1 M4))) zN 0 (-1) 0 M1)
set_option maxHeartbeats 1000000 in
set_option maxRecDepth 20000 in
theorem ct_X11_owed_L11 (l : Launch) (hl : l.stackTraces = false) (G : zG) (x0 : Nat) (hx0 : zsh x0 = 11) (x1 : Int32) (K52 : Int32 → Int32 → zM → zO) (hK52 : ∀ (x2 : Int32) (x3 : Int32) (M : zM), zEv l G Y_X11_owed 9 1 52 [(1, .int x1), (2, .int x2), (3, .int x3)] [] M (K52 x2 x3 M)) : ∀ (n : Nat) (x2 : Int32) (x3 : Int32) (x4 : Int32) (M : zM), zEv l G Y_X11_owed 9 1 11 [(0, .ref (G.2.1 + x0)), (1, .int x1), (2, .int x2), (3, .int x3), (4, .int x4)] [] M (F_X11_owed_L11 x0 x1 K52 n x2 x3 x4 M) := by
  intro n
  induction n with
  | zero => intro x2 x3 x4 M; exact ev_none
  | succ n ih =>
    intro x2 x3 x4 M
    show zEv l G Y_X11_owed 9 1 11 [(0, .ref (G.2.1 + x0)), (1, .int x1), (2, .int x2), (3, .int x3), (4, .int x4)] [] M (zit ((M (zgr x0 1) 0) ≤ x4) (K52 x2 x3 M) (zbI (F_X10_owedTo (zgr x0 4) x4 M) (fun r1 M2 => zjo (fun (w1 : Int32) (w2 : Int32) (M3 : zM) => F_X11_owed_L11 x0 x1 K52 n w1 w2 (x4 + 1) M3) (fun (k1 : Int32 → Int32 → zM → zO) => zit (r1 ≤ x2) (k1 x2 x3 M2) (k1 r1 x4 M2)))))
    refine ev_iload dd_X11_owed_11 4 rfl ?_
    refine ev_aload_n dd_X11_owed_13 0 rfl ?_
    refine ev_getR gf_RX11_19 dd_X11_owed_14 hx0 (by decide) ?_
    refine ev_getI gf_RX11_142 dd_X11_owed_17 (zg_11_1 hx0) (by decide) ?_
    refine ev_icmp_ge 52 dd_X11_owed_20 (by decide) ?_ ?_
    · refine ev_lv (lv' := [(1, .int x1), (2, .int x2), (3, .int x3)]) [1, 2, 3] rfl ?_
      exact hK52 _ _ _
    · refine ev_aload_n dd_X11_owed_23 0 rfl ?_
      refine ev_getR gf_RX11_40 dd_X11_owed_24 hx0 (by decide) ?_
      refine ev_iload dd_X11_owed_27 4 rfl ?_
      refine ev_callVI (As := [.int x4]) cl_RX11_359 (ct_X10_owedTo l hl G (zgr x0 4) (zg_11_4 hx0) x4 M) dd_X11_owed_29 (zg_11_4 hx0) (by decide) (Nat.le_of_ble_eq_true rfl) (Nat.le_of_ble_eq_true rfl) rfl rfl (fun r1 M2 => ?_)
      refine ev_istore (i := 5) (lv' := [(0, .ref (G.2.1 + x0)), (1, .int x1), (2, .int x2), (3, .int x3), (4, .int x4), (5, .int r1)]) [1, 2, 3, 4, 5, 0] dd_X11_owed_32 (by decide) rfl ?_
      refine ev_iload dd_X11_owed_34 5 rfl ?_
      refine ev_iload_n dd_X11_owed_36 2 rfl ?_
      refine ev_jo (fun (k1 : Int32 → Int32 → zM → zO) => ∀ (w1 : Int32) (w2 : Int32) (M3 : zM), zEv l G Y_X11_owed 9 1 46 [(0, .ref (G.2.1 + x0)), (1, .int x1), (2, .int w1), (3, .int w2), (4, .int x4)] [] M3 (k1 w1 w2 M3)) ?_ (fun k1 hk1 => ?_)
      · intro w1 w2 M3
        refine ev_iinc (j := 4) (v := 1) (lv' := [(0, .ref (G.2.1 + x0)), (1, .int x1), (2, .int w1), (3, .int w2), (4, .int (x4 + 1))]) [1, 2, 3, 4, 0] dd_X11_owed_46 rfl (by decide) (by decide) rfl ?_
        refine ev_goto 11 dd_X11_owed_49 (by decide) ?_
        exact ih _ _ _ _
      · refine ev_icmp_le 46 dd_X11_owed_37 (by decide) ?_ ?_
        · refine ev_lv (lv' := [(0, .ref (G.2.1 + x0)), (1, .int x1), (2, .int x2), (3, .int x3), (4, .int x4)]) [0, 1, 2, 3, 4] rfl ?_
          exact hk1 _ _ _
        · refine ev_lv (lv' := [(0, .ref (G.2.1 + x0)), (1, .int x1), (4, .int x4), (5, .int r1)]) [0, 1, 4, 5] rfl ?_
          refine ev_iload dd_X11_owed_40 3 rfl ?_
          refine ev_lv (lv' := [(0, .ref (G.2.1 + x0)), (1, .int x1), (4, .int x4)]) [0, 1, 2] rfl ?_
          refine ev_istore_n (i := 2) (lv' := [(0, .ref (G.2.1 + x0)), (1, .int x1), (2, .int r1), (4, .int x4)]) [1, 2, 0, 3] dd_X11_owed_42 rfl (by decide) rfl ?_
          refine ev_iload dd_X11_owed_43 3 rfl ?_
          refine ev_istore_n (i := 3) (lv' := [(0, .ref (G.2.1 + x0)), (1, .int x1), (2, .int r1), (3, .int x4), (4, .int x4)]) [1, 2, 3, 0, 4] dd_X11_owed_45 rfl (by decide) rfl ?_
          exact hk1 _ _ _
set_option maxHeartbeats 1000000 in
set_option maxRecDepth 20000 in
theorem ct_X11_owed (l : Launch) (hl : l.stackTraces = false) (G : zG) (t : Nat) (ht : zsh t = 11) (a1 : Int32) (M : zM) : zMt l G Y_X11_owed 9 [.ref (G.2.1 + t), .int a1] M (F_X11_owed t a1 M) := by
  refine zMt_of (by decide +kernel) (Nat.le_of_ble_eq_true rfl) ?_
  show zEv l G Y_X11_owed 9 0 0 [(0, .ref (G.2.1 + t)), (1, .int a1)] [] M (zbV (F_X11_needFirstOrCount a1 M) (fun M1 => F_X11_owed_L11 t a1 (fun (y1 : Int32) (y2 : Int32) (M4 : zM) => zjo (fun (w3 : Int32) (M5 : zM) => zI w3 M5) (fun (k2 : Int32 → zM → zO) => zit (a1 = 0) (k2 y2 M4) (k2 y1 M4))) zN 0 (-1) 0 M1))
  refine ev_iload_n dd_X11_owed_0 1 rfl ?_
  refine ev_callSV (As := [.int a1]) cl_RX11_245 (ct_X11_needFirstOrCount l hl G a1 M) dd_X11_owed_1 (by decide) (Nat.le_of_ble_eq_true rfl) (Nat.le_of_ble_eq_true rfl) rfl rfl (fun M1 => ?_)
  refine ev_iconst (v := 0) dd_X11_owed_4 (by decide) ?_
  refine ev_istore_n (i := 2) (lv' := [(0, .ref (G.2.1 + t)), (1, .int a1), (2, .int 0)]) [1, 2, 0] dd_X11_owed_5 rfl (by decide) rfl ?_
  refine ev_iconst (v := (-1)) dd_X11_owed_6 (by decide) ?_
  refine ev_istore_n (i := 3) (lv' := [(0, .ref (G.2.1 + t)), (1, .int a1), (2, .int 0), (3, .int (-1))]) [1, 2, 3, 0] dd_X11_owed_7 rfl (by decide) rfl ?_
  refine ev_iconst (v := 0) dd_X11_owed_8 (by decide) ?_
  refine ev_istore (i := 4) (lv' := [(0, .ref (G.2.1 + t)), (1, .int a1), (2, .int 0), (3, .int (-1)), (4, .int 0)]) [1, 2, 3, 4, 0] dd_X11_owed_9 (by decide) rfl ?_
  refine ct_X11_owed_L11 l hl G t ht a1 _ (fun y1 y2 M4 => ?_) zN _ _ _ _
  refine ev_iload_n dd_X11_owed_52 0 rfl ?_
  refine ev_lv (lv' := [(2, .int y1), (3, .int y2)]) [1, 2] rfl ?_
  refine ev_jo (fun (k2 : Int32 → zM → zO) => ∀ (w3 : Int32) (M5 : zM), zEv l G Y_X11_owed 9 1 61 [] [.int w3] M5 (k2 w3 M5)) ?_ (fun k2 hk2 => ?_)
  · intro w3 M5
    exact ev_iret dd_X11_owed_61 rfl (Nat.le_of_ble_eq_true rfl) rfl
  · refine ev_if_ne 60 dd_X11_owed_53 (by decide) ?_ ?_
    · refine ev_lv (lv' := [(2, .int y1)]) [0] rfl ?_
      refine ev_iload_n dd_X11_owed_60 0 rfl ?_
      refine ev_lv (lv' := []) [] rfl ?_
      exact hk2 _ _
    · refine ev_lv (lv' := [(3, .int y2)]) [1] rfl ?_
      refine ev_iload_n dd_X11_owed_56 0 rfl ?_
      refine ev_lv (lv' := []) [] rfl ?_
      refine ev_goto 61 dd_X11_owed_57 (by decide) ?_
      exact hk2 _ _
/-! X11_prefers -/
theorem dd_X11_prefers_0 : decode Y_X11_prefers.2.1 0 = .ok (.aload_n 0, 1) := by decide +kernel
theorem dd_X11_prefers_1 : decode Y_X11_prefers.2.1 1 = .ok (.iload_n 1, 1) := by decide +kernel
theorem dd_X11_prefers_2 : decode Y_X11_prefers.2.1 2 = .ok (.invokevirtual 203, 3) := by decide +kernel
theorem dd_X11_prefers_5 : decode Y_X11_prefers.2.1 5 = .ok (.aload_n 0, 1) := by decide +kernel
theorem dd_X11_prefers_6 : decode Y_X11_prefers.2.1 6 = .ok (.iload_n 2, 1) := by decide +kernel
theorem dd_X11_prefers_7 : decode Y_X11_prefers.2.1 7 = .ok (.invokevirtual 169, 3) := by decide +kernel
theorem dd_X11_prefers_10 : decode Y_X11_prefers.2.1 10 = .ok (.aload_n 0, 1) := by decide +kernel
theorem dd_X11_prefers_11 : decode Y_X11_prefers.2.1 11 = .ok (.iload_n 3, 1) := by decide +kernel
theorem dd_X11_prefers_12 : decode Y_X11_prefers.2.1 12 = .ok (.invokevirtual 169, 3) := by decide +kernel
theorem dd_X11_prefers_15 : decode Y_X11_prefers.2.1 15 = .ok (.aload_n 0, 1) := by decide +kernel
theorem dd_X11_prefers_16 : decode Y_X11_prefers.2.1 16 = .ok (.getfield 65, 3) := by decide +kernel
theorem dd_X11_prefers_19 : decode Y_X11_prefers.2.1 19 = .ok (.iload_n 1, 1) := by decide +kernel
theorem dd_X11_prefers_20 : decode Y_X11_prefers.2.1 20 = .ok (.iload_n 2, 1) := by decide +kernel
theorem dd_X11_prefers_21 : decode Y_X11_prefers.2.1 21 = .ok (.iload_n 3, 1) := by decide +kernel
theorem dd_X11_prefers_22 : decode Y_X11_prefers.2.1 22 = .ok (.invokevirtual 241, 3) := by decide +kernel
theorem dd_X11_prefers_25 : decode Y_X11_prefers.2.1 25 = .ok (.ireturn, 1) := by decide +kernel
def F_X11_prefers (t : Nat) (a1 : Int32) (a2 : Int32) (a3 : Int32) (M : zM) : zO := zbV (F_X11_needIsle t a1 M) (fun M1 => zbV (F_X11_needName t a2 M1) (fun M2 => zbV (F_X11_needName t a3 M2) (fun M3 => zbI (F_X1_likesMore (zgr t 9) a1 a2 a3 M3) (fun r1 M4 => zck (zbo r1) (zI r1 M4)))))
set_option maxHeartbeats 1000000 in
set_option maxRecDepth 20000 in
theorem ct_X11_prefers (l : Launch) (hl : l.stackTraces = false) (G : zG) (t : Nat) (ht : zsh t = 11) (a1 : Int32) (a2 : Int32) (a3 : Int32) (M : zM) : zMt l G Y_X11_prefers 3 [.ref (G.2.1 + t), .int a1, .int a2, .int a3] M (F_X11_prefers t a1 a2 a3 M) := by
  refine zMt_of (by decide +kernel) (Nat.le_of_ble_eq_true rfl) ?_
  show zEv l G Y_X11_prefers 3 0 0 [(0, .ref (G.2.1 + t)), (1, .int a1), (2, .int a2), (3, .int a3)] [] M (zbV (F_X11_needIsle t a1 M) (fun M1 => zbV (F_X11_needName t a2 M1) (fun M2 => zbV (F_X11_needName t a3 M2) (fun M3 => zbI (F_X1_likesMore (zgr t 9) a1 a2 a3 M3) (fun r1 M4 => zck (zbo r1) (zI r1 M4))))))
  refine ev_aload_n dd_X11_prefers_0 0 rfl ?_
  refine ev_iload_n dd_X11_prefers_1 1 rfl ?_
  refine ev_callVV (As := [.int a1]) cl_RX11_203 (ct_X11_needIsle l hl G t ht a1 M) dd_X11_prefers_2 ht (by decide) (Nat.le_of_ble_eq_true rfl) (Nat.le_of_ble_eq_true rfl) rfl rfl (fun M1 => ?_)
  refine ev_aload_n dd_X11_prefers_5 0 rfl ?_
  refine ev_iload_n dd_X11_prefers_6 2 rfl ?_
  refine ev_callVV (As := [.int a2]) cl_RX11_169 (ct_X11_needName l hl G t ht a2 M1) dd_X11_prefers_7 ht (by decide) (Nat.le_of_ble_eq_true rfl) (Nat.le_of_ble_eq_true rfl) rfl rfl (fun M2 => ?_)
  refine ev_aload_n dd_X11_prefers_10 0 rfl ?_
  refine ev_iload_n dd_X11_prefers_11 3 rfl ?_
  refine ev_callVV (As := [.int a3]) cl_RX11_169 (ct_X11_needName l hl G t ht a3 M2) dd_X11_prefers_12 ht (by decide) (Nat.le_of_ble_eq_true rfl) (Nat.le_of_ble_eq_true rfl) rfl rfl (fun M3 => ?_)
  refine ev_aload_n dd_X11_prefers_15 0 rfl ?_
  refine ev_lv (lv' := [(1, .int a1), (2, .int a2), (3, .int a3)]) [1, 2, 3] rfl ?_
  refine ev_getR gf_RX11_65 dd_X11_prefers_16 ht (by decide) ?_
  refine ev_iload_n dd_X11_prefers_19 0 rfl ?_
  refine ev_lv (lv' := [(2, .int a2), (3, .int a3)]) [1, 2] rfl ?_
  refine ev_iload_n dd_X11_prefers_20 0 rfl ?_
  refine ev_lv (lv' := [(3, .int a3)]) [1] rfl ?_
  refine ev_iload_n dd_X11_prefers_21 0 rfl ?_
  refine ev_lv (lv' := []) [] rfl ?_
  refine ev_callVI (As := [.int a1, .int a2, .int a3]) cl_RX11_241 (ct_X1_likesMore l hl G (zgr t 9) (zg_11_9 ht) a1 a2 a3 M3) dd_X11_prefers_22 (zg_11_9 ht) (by decide) (Nat.le_of_ble_eq_true rfl) (Nat.le_of_ble_eq_true rfl) rfl rfl (fun r1 M4 => ?_)
  exact ev_zret dd_X11_prefers_25 rfl (Nat.le_of_ble_eq_true rfl) rfl
/-! X11_restore -/
theorem dd_X11_restore_0 : decode Y_X11_restore.2.1 0 = .ok (.aload_n 0, 1) := by decide +kernel
theorem dd_X11_restore_1 : decode Y_X11_restore.2.1 1 = .ok (.getfield 100, 3) := by decide +kernel
theorem dd_X11_restore_4 : decode Y_X11_restore.2.1 4 = .ok (.ifCond .ne 5, 3) := by decide +kernel
theorem dd_X11_restore_7 : decode Y_X11_restore.2.1 7 = .ok (.iconst 0, 1) := by decide +kernel
theorem dd_X11_restore_8 : decode Y_X11_restore.2.1 8 = .ok (.ireturn, 1) := by decide +kernel
theorem dd_X11_restore_9 : decode Y_X11_restore.2.1 9 = .ok (.aload_n 0, 1) := by decide +kernel
theorem dd_X11_restore_10 : decode Y_X11_restore.2.1 10 = .ok (.dup, 1) := by decide +kernel
theorem dd_X11_restore_11 : decode Y_X11_restore.2.1 11 = .ok (.getfield 104, 3) := by decide +kernel
theorem dd_X11_restore_14 : decode Y_X11_restore.2.1 14 = .ok (.iconst 1, 1) := by decide +kernel
theorem dd_X11_restore_15 : decode Y_X11_restore.2.1 15 = .ok (.iadd, 1) := by decide +kernel
theorem dd_X11_restore_16 : decode Y_X11_restore.2.1 16 = .ok (.putfield 104, 3) := by decide +kernel
theorem dd_X11_restore_19 : decode Y_X11_restore.2.1 19 = .ok (.aload_n 0, 1) := by decide +kernel
theorem dd_X11_restore_20 : decode Y_X11_restore.2.1 20 = .ok (.getfield 40, 3) := by decide +kernel
theorem dd_X11_restore_23 : decode Y_X11_restore.2.1 23 = .ok (.aload_n 0, 1) := by decide +kernel
theorem dd_X11_restore_24 : decode Y_X11_restore.2.1 24 = .ok (.getfield 47, 3) := by decide +kernel
theorem dd_X11_restore_27 : decode Y_X11_restore.2.1 27 = .ok (.invokevirtual 291, 3) := by decide +kernel
theorem dd_X11_restore_30 : decode Y_X11_restore.2.1 30 = .ok (.aload_n 0, 1) := by decide +kernel
theorem dd_X11_restore_31 : decode Y_X11_restore.2.1 31 = .ok (.getfield 53, 3) := by decide +kernel
theorem dd_X11_restore_34 : decode Y_X11_restore.2.1 34 = .ok (.aload_n 0, 1) := by decide +kernel
theorem dd_X11_restore_35 : decode Y_X11_restore.2.1 35 = .ok (.getfield 57, 3) := by decide +kernel
theorem dd_X11_restore_38 : decode Y_X11_restore.2.1 38 = .ok (.invokevirtual 362, 3) := by decide +kernel
theorem dd_X11_restore_41 : decode Y_X11_restore.2.1 41 = .ok (.iconst 1, 1) := by decide +kernel
theorem dd_X11_restore_42 : decode Y_X11_restore.2.1 42 = .ok (.ireturn, 1) := by decide +kernel
def F_X11_restore (t : Nat) (M : zM) : zO := zit ((M t 14) = 0) (zck (zbo 0) (zI 0 M)) (zst (zup M t 15 ((M t 15) + 1)) (fun M1 => zbV (F_X10_copy (zgr t 4) (zgr t 6) M1) (fun M2 => zbV (F_X3_copy (zgr t 7) (zgr t 8) M2) (fun M3 => zck (zbo 1) (zI 1 M3)))))
set_option maxHeartbeats 1000000 in
set_option maxRecDepth 20000 in
theorem ct_X11_restore (l : Launch) (hl : l.stackTraces = false) (G : zG) (t : Nat) (ht : zsh t = 11) (M : zM) : zMt l G Y_X11_restore 9 [.ref (G.2.1 + t)] M (F_X11_restore t M) := by
  refine zMt_of (by decide +kernel) (Nat.le_of_ble_eq_true rfl) ?_
  show zEv l G Y_X11_restore 9 0 0 [(0, .ref (G.2.1 + t))] [] M (zit ((M t 14) = 0) (zck (zbo 0) (zI 0 M)) (zst (zup M t 15 ((M t 15) + 1)) (fun M1 => zbV (F_X10_copy (zgr t 4) (zgr t 6) M1) (fun M2 => zbV (F_X3_copy (zgr t 7) (zgr t 8) M2) (fun M3 => zck (zbo 1) (zI 1 M3))))))
  refine ev_aload_n dd_X11_restore_0 0 rfl ?_
  refine ev_getI gf_RX11_100 dd_X11_restore_1 ht (by decide) ?_
  refine ev_if_ne 9 dd_X11_restore_4 (by decide) ?_ ?_
  · refine ev_aload_n dd_X11_restore_9 0 rfl ?_
    refine ev_dup dd_X11_restore_10 rfl ?_
    refine ev_getI gf_RX11_104 dd_X11_restore_11 ht (by decide) ?_
    refine ev_iconst (v := 1) dd_X11_restore_14 (by decide) ?_
    refine ev_iadd dd_X11_restore_15 ?_
    refine ev_putI gw_RX11_104 dd_X11_restore_16 ht (by decide) ?_
    refine ev_st (fun M1 => ?_)
    refine ev_aload_n dd_X11_restore_19 0 rfl ?_
    refine ev_getR gf_RX11_40 dd_X11_restore_20 ht (by decide) ?_
    refine ev_aload_n dd_X11_restore_23 0 rfl ?_
    refine ev_getR gf_RX11_47 dd_X11_restore_24 ht (by decide) ?_
    refine ev_callVV (As := [.ref (G.2.1 + (zgr t 6))]) cl_RX11_291 (ct_X10_copy l hl G (zgr t 4) (zg_11_4 ht) (zgr t 6) (zg_11_6 ht) M1) dd_X11_restore_27 (zg_11_4 ht) (by decide) (Nat.le_of_ble_eq_true rfl) (Nat.le_of_ble_eq_true rfl) rfl rfl (fun M2 => ?_)
    refine ev_aload_n dd_X11_restore_30 0 rfl ?_
    refine ev_getR gf_RX11_53 dd_X11_restore_31 ht (by decide) ?_
    refine ev_aload_n dd_X11_restore_34 0 rfl ?_
    refine ev_lv (lv' := []) [] rfl ?_
    refine ev_getR gf_RX11_57 dd_X11_restore_35 ht (by decide) ?_
    refine ev_callVV (As := [.ref (G.2.1 + (zgr t 8))]) cl_RX11_362 (ct_X3_copy l hl G (zgr t 7) (zg_11_7 ht) (zgr t 8) (zg_11_8 ht) M2) dd_X11_restore_38 (zg_11_7 ht) (by decide) (Nat.le_of_ble_eq_true rfl) (Nat.le_of_ble_eq_true rfl) rfl rfl (fun M3 => ?_)
    refine ev_iconst (v := 1) dd_X11_restore_41 (by decide) ?_
    exact ev_zret dd_X11_restore_42 rfl (Nat.le_of_ble_eq_true rfl) rfl
  · refine ev_lv (lv' := []) [] rfl ?_
    refine ev_iconst (v := 0) dd_X11_restore_7 (by decide) ?_
    exact ev_zret dd_X11_restore_8 rfl (Nat.le_of_ble_eq_true rfl) rfl
/-! X1_aim -/
theorem dd_X1_aim_0 : decode Y_X1_aim.2.1 0 = .ok (.iconst 0, 1) := by decide +kernel
theorem dd_X1_aim_1 : decode Y_X1_aim.2.1 1 = .ok (.istore_n 2, 1) := by decide +kernel
theorem dd_X1_aim_2 : decode Y_X1_aim.2.1 2 = .ok (.iload_n 2, 1) := by decide +kernel
theorem dd_X1_aim_3 : decode Y_X1_aim.2.1 3 = .ok (.aload_n 0, 1) := by decide +kernel
theorem dd_X1_aim_4 : decode Y_X1_aim.2.1 4 = .ok (.getfield 25, 3) := by decide +kernel
theorem dd_X1_aim_7 : decode Y_X1_aim.2.1 7 = .ok (.getfield 51, 3) := by decide +kernel
theorem dd_X1_aim_10 : decode Y_X1_aim.2.1 10 = .ok (.if_icmp .ge 94, 3) := by decide +kernel
theorem dd_X1_aim_13 : decode Y_X1_aim.2.1 13 = .ok (.aload_n 0, 1) := by decide +kernel
theorem dd_X1_aim_14 : decode Y_X1_aim.2.1 14 = .ok (.getfield 19, 3) := by decide +kernel
theorem dd_X1_aim_17 : decode Y_X1_aim.2.1 17 = .ok (.iload_n 2, 1) := by decide +kernel
theorem dd_X1_aim_18 : decode Y_X1_aim.2.1 18 = .ok (.iload_n 2, 1) := by decide +kernel
theorem dd_X1_aim_19 : decode Y_X1_aim.2.1 19 = .ok (.iastore, 1) := by decide +kernel
theorem dd_X1_aim_20 : decode Y_X1_aim.2.1 20 = .ok (.iconst 0, 1) := by decide +kernel
theorem dd_X1_aim_21 : decode Y_X1_aim.2.1 21 = .ok (.istore_n 3, 1) := by decide +kernel
theorem dd_X1_aim_22 : decode Y_X1_aim.2.1 22 = .ok (.iload_n 3, 1) := by decide +kernel
theorem dd_X1_aim_23 : decode Y_X1_aim.2.1 23 = .ok (.aload_n 0, 1) := by decide +kernel
theorem dd_X1_aim_24 : decode Y_X1_aim.2.1 24 = .ok (.getfield 25, 3) := by decide +kernel
theorem dd_X1_aim_27 : decode Y_X1_aim.2.1 27 = .ok (.getfield 51, 3) := by decide +kernel
theorem dd_X1_aim_30 : decode Y_X1_aim.2.1 30 = .ok (.if_icmp .ge 68, 3) := by decide +kernel
theorem dd_X1_aim_33 : decode Y_X1_aim.2.1 33 = .ok (.iload_n 1, 1) := by decide +kernel
theorem dd_X1_aim_34 : decode Y_X1_aim.2.1 34 = .ok (.iload_n 3, 1) := by decide +kernel
theorem dd_X1_aim_35 : decode Y_X1_aim.2.1 35 = .ok (.ishr, 1) := by decide +kernel
theorem dd_X1_aim_36 : decode Y_X1_aim.2.1 36 = .ok (.iconst 1, 1) := by decide +kernel
theorem dd_X1_aim_37 : decode Y_X1_aim.2.1 37 = .ok (.iand, 1) := by decide +kernel
theorem dd_X1_aim_38 : decode Y_X1_aim.2.1 38 = .ok (.iconst 1, 1) := by decide +kernel
theorem dd_X1_aim_39 : decode Y_X1_aim.2.1 39 = .ok (.if_icmp .ne 7, 3) := by decide +kernel
theorem dd_X1_aim_42 : decode Y_X1_aim.2.1 42 = .ok (.iconst 1, 1) := by decide +kernel
theorem dd_X1_aim_43 : decode Y_X1_aim.2.1 43 = .ok (.goto 4, 3) := by decide +kernel
theorem dd_X1_aim_46 : decode Y_X1_aim.2.1 46 = .ok (.iconst 0, 1) := by decide +kernel
theorem dd_X1_aim_47 : decode Y_X1_aim.2.1 47 = .ok (.istore 4, 2) := by decide +kernel
theorem dd_X1_aim_49 : decode Y_X1_aim.2.1 49 = .ok (.iload 4, 2) := by decide +kernel
theorem dd_X1_aim_51 : decode Y_X1_aim.2.1 51 = .ok (.ifCond .eq 41, 3) := by decide +kernel
theorem dd_X1_aim_54 : decode Y_X1_aim.2.1 54 = .ok (.aload_n 0, 1) := by decide +kernel
theorem dd_X1_aim_55 : decode Y_X1_aim.2.1 55 = .ok (.iload_n 2, 1) := by decide +kernel
theorem dd_X1_aim_56 : decode Y_X1_aim.2.1 56 = .ok (.aload_n 0, 1) := by decide +kernel
theorem dd_X1_aim_57 : decode Y_X1_aim.2.1 57 = .ok (.getfield 29, 3) := by decide +kernel
theorem dd_X1_aim_60 : decode Y_X1_aim.2.1 60 = .ok (.getfield 38, 3) := by decide +kernel
theorem dd_X1_aim_63 : decode Y_X1_aim.2.1 63 = .ok (.iload_n 3, 1) := by decide +kernel
theorem dd_X1_aim_64 : decode Y_X1_aim.2.1 64 = .ok (.iaload, 1) := by decide +kernel
theorem dd_X1_aim_65 : decode Y_X1_aim.2.1 65 = .ok (.aload_n 0, 1) := by decide +kernel
theorem dd_X1_aim_66 : decode Y_X1_aim.2.1 66 = .ok (.getfield 29, 3) := by decide +kernel
theorem dd_X1_aim_69 : decode Y_X1_aim.2.1 69 = .ok (.getfield 38, 3) := by decide +kernel
theorem dd_X1_aim_72 : decode Y_X1_aim.2.1 72 = .ok (.aload_n 0, 1) := by decide +kernel
theorem dd_X1_aim_73 : decode Y_X1_aim.2.1 73 = .ok (.getfield 19, 3) := by decide +kernel
theorem dd_X1_aim_76 : decode Y_X1_aim.2.1 76 = .ok (.iload_n 2, 1) := by decide +kernel
theorem dd_X1_aim_77 : decode Y_X1_aim.2.1 77 = .ok (.iaload, 1) := by decide +kernel
theorem dd_X1_aim_78 : decode Y_X1_aim.2.1 78 = .ok (.iaload, 1) := by decide +kernel
theorem dd_X1_aim_79 : decode Y_X1_aim.2.1 79 = .ok (.invokevirtual 47, 3) := by decide +kernel
theorem dd_X1_aim_82 : decode Y_X1_aim.2.1 82 = .ok (.ifCond .eq 10, 3) := by decide +kernel
theorem dd_X1_aim_85 : decode Y_X1_aim.2.1 85 = .ok (.aload_n 0, 1) := by decide +kernel
theorem dd_X1_aim_86 : decode Y_X1_aim.2.1 86 = .ok (.getfield 19, 3) := by decide +kernel
theorem dd_X1_aim_89 : decode Y_X1_aim.2.1 89 = .ok (.iload_n 2, 1) := by decide +kernel
theorem dd_X1_aim_90 : decode Y_X1_aim.2.1 90 = .ok (.iload_n 3, 1) := by decide +kernel
theorem dd_X1_aim_91 : decode Y_X1_aim.2.1 91 = .ok (.iastore, 1) := by decide +kernel
theorem dd_X1_aim_92 : decode Y_X1_aim.2.1 92 = .ok (.iinc 3 1, 3) := by decide +kernel
theorem dd_X1_aim_95 : decode Y_X1_aim.2.1 95 = .ok (.goto (-73), 3) := by decide +kernel
theorem dd_X1_aim_98 : decode Y_X1_aim.2.1 98 = .ok (.iinc 2 1, 3) := by decide +kernel
theorem dd_X1_aim_101 : decode Y_X1_aim.2.1 101 = .ok (.goto (-99), 3) := by decide +kernel
theorem dd_X1_aim_104 : decode Y_X1_aim.2.1 104 = .ok (.return_, 1) := by decide +kernel
def F_X1_aim_L22 (x0 : Nat) (x1 : Int32) (x2 : Int32) (K98 : zM → zO) : Nat → Int32 → zM → zO
  | 0, _, _ => none
  | n + 1, x3, M => zit ((M (zgr x0 0) 0) ≤ x3) (K98 M) (zjo (fun (w1 : Int32) (M2 : zM) => zjo (fun  (M5 : zM) => F_X1_aim_L22 x0 x1 x2 K98 n (x3 + 1) M5) (fun (k2 : zM → zO) => zit (w1 = 0) (k2 M2) (zck (zin x3 8) (zck (zin x2 8) (zck (zin (M2 (zgr x0 4) (zix x2)) 8) (zbI (F_X1_likesMore x0 x2 (M2 (zgr (zgr x0 1) 1) (zix x3)) (M2 (zgr (zgr x0 1) 1) (zix (M2 (zgr x0 4) (zix x2)))) M2) (fun r1 M3 => zit (r1 = 0) (k2 M3) (zck (zin x2 8) (zst (zup M3 (zgr x0 4) (zix x2) x3) (fun M4 => k2 M4)))))))))) (fun (k1 : Int32 → zM → zO) => zit (((x1 >>> (x3 &&& 31)) &&& 1) = 1) (k1 1 M) (k1 0 M)))
def F_X1_aim_L2 (x0 : Nat) (x1 : Int32) (K104 : zM → zO) : Nat → Int32 → zM → zO
  | 0, _, _ => none
  | n + 1, x2, M => zit ((M (zgr x0 0) 0) ≤ x2) (K104 M) (zck (zin x2 8) (zst (zup M (zgr x0 4) (zix x2) x2) (fun M1 => F_X1_aim_L22 x0 x1 x2 (fun  (M6 : zM) => F_X1_aim_L2 x0 x1 K104 n (x2 + 1) M6) zN 0 M1)))
def F_X1_aim (t : Nat) (a1 : Int32) (M : zM) : zO := F_X1_aim_L2 t a1 (fun  (M7 : zM) => zV M7) zN 0 M
set_option maxHeartbeats 1000000 in
set_option maxRecDepth 20000 in
theorem ct_X1_aim_L22 (l : Launch) (hl : l.stackTraces = false) (G : zG) (x0 : Nat) (hx0 : zsh x0 = 1) (x1 : Int32) (x2 : Int32) (K98 : zM → zO) (hK98 : ∀  (M : zM), zEv l G Y_X1_aim 3 0 98 [(0, .ref (G.2.1 + x0)), (1, .int x1), (2, .int x2)] [] M (K98 M)) : ∀ (n : Nat) (x3 : Int32) (M : zM), zEv l G Y_X1_aim 3 0 22 [(0, .ref (G.2.1 + x0)), (1, .int x1), (2, .int x2), (3, .int x3)] [] M (F_X1_aim_L22 x0 x1 x2 K98 n x3 M) := by
  intro n
  induction n with
  | zero => intro x3 M; exact ev_none
  | succ n ih =>
    intro x3 M
    show zEv l G Y_X1_aim 3 0 22 [(0, .ref (G.2.1 + x0)), (1, .int x1), (2, .int x2), (3, .int x3)] [] M (zit ((M (zgr x0 0) 0) ≤ x3) (K98 M) (zjo (fun (w1 : Int32) (M2 : zM) => zjo (fun  (M5 : zM) => F_X1_aim_L22 x0 x1 x2 K98 n (x3 + 1) M5) (fun (k2 : zM → zO) => zit (w1 = 0) (k2 M2) (zck (zin x3 8) (zck (zin x2 8) (zck (zin (M2 (zgr x0 4) (zix x2)) 8) (zbI (F_X1_likesMore x0 x2 (M2 (zgr (zgr x0 1) 1) (zix x3)) (M2 (zgr (zgr x0 1) 1) (zix (M2 (zgr x0 4) (zix x2)))) M2) (fun r1 M3 => zit (r1 = 0) (k2 M3) (zck (zin x2 8) (zst (zup M3 (zgr x0 4) (zix x2) x3) (fun M4 => k2 M4)))))))))) (fun (k1 : Int32 → zM → zO) => zit (((x1 >>> (x3 &&& 31)) &&& 1) = 1) (k1 1 M) (k1 0 M))))
    refine ev_iload_n dd_X1_aim_22 3 rfl ?_
    refine ev_aload_n dd_X1_aim_23 0 rfl ?_
    refine ev_getR gf_RX1_25 dd_X1_aim_24 hx0 (by decide) ?_
    refine ev_getI gf_RX1_51 dd_X1_aim_27 (zg_1_0 hx0) (by decide) ?_
    refine ev_icmp_ge 98 dd_X1_aim_30 (by decide) ?_ ?_
    · refine ev_lv (lv' := [(0, .ref (G.2.1 + x0)), (1, .int x1), (2, .int x2)]) [0, 1, 2] rfl ?_
      exact hK98 _
    · refine ev_iload_n dd_X1_aim_33 1 rfl ?_
      refine ev_iload_n dd_X1_aim_34 3 rfl ?_
      refine ev_ishr dd_X1_aim_35 ?_
      refine ev_iconst (v := 1) dd_X1_aim_36 (by decide) ?_
      refine ev_iand dd_X1_aim_37 ?_
      refine ev_iconst (v := 1) dd_X1_aim_38 (by decide) ?_
      refine ev_jo (fun (k1 : Int32 → zM → zO) => ∀ (w1 : Int32) (M2 : zM), zEv l G Y_X1_aim 3 0 47 [(0, .ref (G.2.1 + x0)), (1, .int x1), (2, .int x2), (3, .int x3)] [.int w1] M2 (k1 w1 M2)) ?_ (fun k1 hk1 => ?_)
      · intro w1 M2
        refine ev_istore (i := 4) (lv' := [(0, .ref (G.2.1 + x0)), (1, .int x1), (2, .int x2), (3, .int x3), (4, .int w1)]) [1, 2, 3, 4, 0] dd_X1_aim_47 (by decide) rfl ?_
        refine ev_iload dd_X1_aim_49 4 rfl ?_
        refine ev_lv (lv' := [(0, .ref (G.2.1 + x0)), (1, .int x1), (2, .int x2), (3, .int x3)]) [0, 1, 2, 3] rfl ?_
        refine ev_jo (fun (k2 : zM → zO) => ∀  (M5 : zM), zEv l G Y_X1_aim 3 0 92 [(0, .ref (G.2.1 + x0)), (1, .int x1), (2, .int x2), (3, .int x3)] [] M5 (k2 M5)) ?_ (fun k2 hk2 => ?_)
        · intro M5
          refine ev_iinc (j := 3) (v := 1) (lv' := [(0, .ref (G.2.1 + x0)), (1, .int x1), (2, .int x2), (3, .int (x3 + 1))]) [1, 2, 3, 0] dd_X1_aim_92 rfl (by decide) (by decide) rfl ?_
          refine ev_goto 22 dd_X1_aim_95 (by decide) ?_
          exact ih _ _
        · refine ev_if_eq 92 dd_X1_aim_51 (by decide) ?_ ?_
          · exact hk2 _
          · refine ev_aload_n dd_X1_aim_54 0 rfl ?_
            refine ev_iload_n dd_X1_aim_55 2 rfl ?_
            refine ev_aload_n dd_X1_aim_56 0 rfl ?_
            refine ev_getR gf_RX1_29 dd_X1_aim_57 hx0 (by decide) ?_
            refine ev_getR gf_RX1_38 dd_X1_aim_60 (zg_1_1 hx0) (by decide) ?_
            refine ev_iload_n dd_X1_aim_63 3 rfl ?_
            refine ev_iald dd_X1_aim_64 ((zg_10_1 (zg_1_1 hx0)).1) ((zg_10_1 (zg_1_1 hx0)).2) ?_
            refine ev_aload_n dd_X1_aim_65 0 rfl ?_
            refine ev_getR gf_RX1_29 dd_X1_aim_66 hx0 (by decide) ?_
            refine ev_getR gf_RX1_38 dd_X1_aim_69 (zg_1_1 hx0) (by decide) ?_
            refine ev_aload_n dd_X1_aim_72 0 rfl ?_
            refine ev_getR gf_RX1_19 dd_X1_aim_73 hx0 (by decide) ?_
            refine ev_iload_n dd_X1_aim_76 2 rfl ?_
            refine ev_iald dd_X1_aim_77 ((zg_1_4 hx0).1) ((zg_1_4 hx0).2) ?_
            refine ev_iald dd_X1_aim_78 ((zg_10_1 (zg_1_1 hx0)).1) ((zg_10_1 (zg_1_1 hx0)).2) ?_
            refine ev_callVI (As := [.int x2, .int (M2 (zgr (zgr x0 1) 1) (zix x3)), .int (M2 (zgr (zgr x0 1) 1) (zix (M2 (zgr x0 4) (zix x2))))]) cl_RX1_47 (ct_X1_likesMore l hl G x0 hx0 x2 (M2 (zgr (zgr x0 1) 1) (zix x3)) (M2 (zgr (zgr x0 1) 1) (zix (M2 (zgr x0 4) (zix x2)))) M2) dd_X1_aim_79 hx0 (by decide) (Nat.le_of_ble_eq_true rfl) (Nat.le_of_ble_eq_true rfl) rfl rfl (fun r1 M3 => ?_)
            refine ev_if_eq 92 dd_X1_aim_82 (by decide) ?_ ?_
            · exact hk2 _
            · refine ev_aload_n dd_X1_aim_85 0 rfl ?_
              refine ev_getR gf_RX1_19 dd_X1_aim_86 hx0 (by decide) ?_
              refine ev_iload_n dd_X1_aim_89 2 rfl ?_
              refine ev_iload_n dd_X1_aim_90 3 rfl ?_
              refine ev_iast dd_X1_aim_91 ((zg_1_4 hx0).1) ((zg_1_4 hx0).2) ?_
              refine ev_st (fun M4 => ?_)
              exact hk2 _
      · refine ev_icmp_ne 46 dd_X1_aim_39 (by decide) ?_ ?_
        · refine ev_iconst (v := 0) dd_X1_aim_46 (by decide) ?_
          exact hk1 _ _
        · refine ev_iconst (v := 1) dd_X1_aim_42 (by decide) ?_
          refine ev_goto 47 dd_X1_aim_43 (by decide) ?_
          exact hk1 _ _
set_option maxHeartbeats 1000000 in
set_option maxRecDepth 20000 in
theorem ct_X1_aim_L2 (l : Launch) (hl : l.stackTraces = false) (G : zG) (x0 : Nat) (hx0 : zsh x0 = 1) (x1 : Int32) (K104 : zM → zO) (hK104 : ∀  (M : zM), zEv l G Y_X1_aim 3 0 104 [] [] M (K104 M)) : ∀ (n : Nat) (x2 : Int32) (M : zM), zEv l G Y_X1_aim 3 0 2 [(0, .ref (G.2.1 + x0)), (1, .int x1), (2, .int x2)] [] M (F_X1_aim_L2 x0 x1 K104 n x2 M) := by
  intro n
  induction n with
  | zero => intro x2 M; exact ev_none
  | succ n ih =>
    intro x2 M
    show zEv l G Y_X1_aim 3 0 2 [(0, .ref (G.2.1 + x0)), (1, .int x1), (2, .int x2)] [] M (zit ((M (zgr x0 0) 0) ≤ x2) (K104 M) (zck (zin x2 8) (zst (zup M (zgr x0 4) (zix x2) x2) (fun M1 => F_X1_aim_L22 x0 x1 x2 (fun  (M6 : zM) => F_X1_aim_L2 x0 x1 K104 n (x2 + 1) M6) zN 0 M1))))
    refine ev_iload_n dd_X1_aim_2 2 rfl ?_
    refine ev_aload_n dd_X1_aim_3 0 rfl ?_
    refine ev_getR gf_RX1_25 dd_X1_aim_4 hx0 (by decide) ?_
    refine ev_getI gf_RX1_51 dd_X1_aim_7 (zg_1_0 hx0) (by decide) ?_
    refine ev_icmp_ge 104 dd_X1_aim_10 (by decide) ?_ ?_
    · refine ev_lv (lv' := []) [] rfl ?_
      exact hK104 _
    · refine ev_aload_n dd_X1_aim_13 0 rfl ?_
      refine ev_getR gf_RX1_19 dd_X1_aim_14 hx0 (by decide) ?_
      refine ev_iload_n dd_X1_aim_17 2 rfl ?_
      refine ev_iload_n dd_X1_aim_18 2 rfl ?_
      refine ev_iast dd_X1_aim_19 ((zg_1_4 hx0).1) ((zg_1_4 hx0).2) ?_
      refine ev_st (fun M1 => ?_)
      refine ev_iconst (v := 0) dd_X1_aim_20 (by decide) ?_
      refine ev_istore_n (i := 3) (lv' := [(0, .ref (G.2.1 + x0)), (1, .int x1), (2, .int x2), (3, .int 0)]) [1, 2, 3, 0] dd_X1_aim_21 rfl (by decide) rfl ?_
      refine ct_X1_aim_L22 l hl G x0 hx0 x1 x2 _ (fun M6 => ?_) zN _ _
      refine ev_iinc (j := 2) (v := 1) (lv' := [(0, .ref (G.2.1 + x0)), (1, .int x1), (2, .int (x2 + 1))]) [1, 2, 0] dd_X1_aim_98 rfl (by decide) (by decide) rfl ?_
      refine ev_goto 2 dd_X1_aim_101 (by decide) ?_
      exact ih _ _
set_option maxHeartbeats 1000000 in
set_option maxRecDepth 20000 in
theorem ct_X1_aim (l : Launch) (hl : l.stackTraces = false) (G : zG) (t : Nat) (ht : zsh t = 1) (a1 : Int32) (M : zM) : zMt l G Y_X1_aim 3 [.ref (G.2.1 + t), .int a1] M (F_X1_aim t a1 M) := by
  refine zMt_of (by decide +kernel) (Nat.le_of_ble_eq_true rfl) ?_
  show zEv l G Y_X1_aim 3 0 0 [(0, .ref (G.2.1 + t)), (1, .int a1)] [] M (F_X1_aim_L2 t a1 (fun  (M7 : zM) => zV M7) zN 0 M)
  refine ev_iconst (v := 0) dd_X1_aim_0 (by decide) ?_
  refine ev_istore_n (i := 2) (lv' := [(0, .ref (G.2.1 + t)), (1, .int a1), (2, .int 0)]) [1, 2, 0] dd_X1_aim_1 rfl (by decide) rfl ?_
  refine ct_X1_aim_L2 l hl G t ht a1 _ (fun M7 => ?_) zN _ _
  exact ev_vret dd_X1_aim_104 rfl (Nat.le_of_ble_eq_true rfl) rfl
/-! X1_roundLength -/
theorem dd_X1_roundLength_0 : decode Y_X1_roundLength.2.1 0 = .ok (.iload_n 1, 1) := by decide +kernel
theorem dd_X1_roundLength_1 : decode Y_X1_roundLength.2.1 1 = .ok (.istore_n 2, 1) := by decide +kernel
theorem dd_X1_roundLength_2 : decode Y_X1_roundLength.2.1 2 = .ok (.iconst 1, 1) := by decide +kernel
theorem dd_X1_roundLength_3 : decode Y_X1_roundLength.2.1 3 = .ok (.istore_n 3, 1) := by decide +kernel
theorem dd_X1_roundLength_4 : decode Y_X1_roundLength.2.1 4 = .ok (.iload_n 3, 1) := by decide +kernel
theorem dd_X1_roundLength_5 : decode Y_X1_roundLength.2.1 5 = .ok (.bipush 8, 2) := by decide +kernel
theorem dd_X1_roundLength_7 : decode Y_X1_roundLength.2.1 7 = .ok (.if_icmp .gt 23, 3) := by decide +kernel
theorem dd_X1_roundLength_10 : decode Y_X1_roundLength.2.1 10 = .ok (.aload_n 0, 1) := by decide +kernel
theorem dd_X1_roundLength_11 : decode Y_X1_roundLength.2.1 11 = .ok (.getfield 19, 3) := by decide +kernel
theorem dd_X1_roundLength_14 : decode Y_X1_roundLength.2.1 14 = .ok (.iload_n 2, 1) := by decide +kernel
theorem dd_X1_roundLength_15 : decode Y_X1_roundLength.2.1 15 = .ok (.iaload, 1) := by decide +kernel
theorem dd_X1_roundLength_16 : decode Y_X1_roundLength.2.1 16 = .ok (.istore_n 2, 1) := by decide +kernel
theorem dd_X1_roundLength_17 : decode Y_X1_roundLength.2.1 17 = .ok (.iload_n 2, 1) := by decide +kernel
theorem dd_X1_roundLength_18 : decode Y_X1_roundLength.2.1 18 = .ok (.iload_n 1, 1) := by decide +kernel
theorem dd_X1_roundLength_19 : decode Y_X1_roundLength.2.1 19 = .ok (.if_icmp .ne 5, 3) := by decide +kernel
theorem dd_X1_roundLength_22 : decode Y_X1_roundLength.2.1 22 = .ok (.iload_n 3, 1) := by decide +kernel
theorem dd_X1_roundLength_23 : decode Y_X1_roundLength.2.1 23 = .ok (.ireturn, 1) := by decide +kernel
theorem dd_X1_roundLength_24 : decode Y_X1_roundLength.2.1 24 = .ok (.iinc 3 1, 3) := by decide +kernel
theorem dd_X1_roundLength_27 : decode Y_X1_roundLength.2.1 27 = .ok (.goto (-23), 3) := by decide +kernel
theorem dd_X1_roundLength_30 : decode Y_X1_roundLength.2.1 30 = .ok (.iconst 0, 1) := by decide +kernel
theorem dd_X1_roundLength_31 : decode Y_X1_roundLength.2.1 31 = .ok (.ireturn, 1) := by decide +kernel
def F_X1_roundLength_L4 (x0 : Nat) (x1 : Int32) (K30 : zM → zO) : Nat → Int32 → Int32 → zM → zO
  | 0, _, _, _ => none
  | n + 1, x2, x3, M => zit (8 < x3) (K30 M) (zck (zin x2 8) (zlt (M (zgr x0 4) (zix x2)) (fun v1 => zit (v1 = x1) (zI x3 M) (F_X1_roundLength_L4 x0 x1 K30 n v1 (x3 + 1) M))))
def F_X1_roundLength (t : Nat) (a1 : Int32) (M : zM) : zO := F_X1_roundLength_L4 t a1 (fun  (M1 : zM) => zI 0 M1) zN a1 1 M
set_option maxHeartbeats 1000000 in
set_option maxRecDepth 20000 in
theorem ct_X1_roundLength_L4 (l : Launch) (hl : l.stackTraces = false) (G : zG) (x0 : Nat) (hx0 : zsh x0 = 1) (x1 : Int32) (K30 : zM → zO) (hK30 : ∀  (M : zM), zEv l G Y_X1_roundLength 1 0 30 [] [] M (K30 M)) : ∀ (n : Nat) (x2 : Int32) (x3 : Int32) (M : zM), zEv l G Y_X1_roundLength 1 0 4 [(0, .ref (G.2.1 + x0)), (1, .int x1), (2, .int x2), (3, .int x3)] [] M (F_X1_roundLength_L4 x0 x1 K30 n x2 x3 M) := by
  intro n
  induction n with
  | zero => intro x2 x3 M; exact ev_none
  | succ n ih =>
    intro x2 x3 M
    show zEv l G Y_X1_roundLength 1 0 4 [(0, .ref (G.2.1 + x0)), (1, .int x1), (2, .int x2), (3, .int x3)] [] M (zit (8 < x3) (K30 M) (zck (zin x2 8) (zlt (M (zgr x0 4) (zix x2)) (fun v1 => zit (v1 = x1) (zI x3 M) (F_X1_roundLength_L4 x0 x1 K30 n v1 (x3 + 1) M)))))
    refine ev_iload_n dd_X1_roundLength_4 3 rfl ?_
    refine ev_bipush (v := 8) dd_X1_roundLength_5 (by decide) ?_
    refine ev_icmp_gt 30 dd_X1_roundLength_7 (by decide) ?_ ?_
    · refine ev_lv (lv' := []) [] rfl ?_
      exact hK30 _
    · refine ev_aload_n dd_X1_roundLength_10 0 rfl ?_
      refine ev_getR gf_RX1_19 dd_X1_roundLength_11 hx0 (by decide) ?_
      refine ev_iload_n dd_X1_roundLength_14 2 rfl ?_
      refine ev_lv (lv' := [(0, .ref (G.2.1 + x0)), (1, .int x1), (3, .int x3)]) [0, 1, 3] rfl ?_
      refine ev_iald dd_X1_roundLength_15 ((zg_1_4 hx0).1) ((zg_1_4 hx0).2) ?_
      refine ev_topi (fun v1 => ?_)
      refine ev_istore_n (i := 2) (lv' := [(0, .ref (G.2.1 + x0)), (1, .int x1), (2, .int v1), (3, .int x3)]) [1, 2, 0, 3] dd_X1_roundLength_16 rfl (by decide) rfl ?_
      refine ev_iload_n dd_X1_roundLength_17 2 rfl ?_
      refine ev_iload_n dd_X1_roundLength_18 1 rfl ?_
      refine ev_icmp_ne 24 dd_X1_roundLength_19 (by decide) ?_ ?_
      · refine ev_iinc (j := 3) (v := 1) (lv' := [(0, .ref (G.2.1 + x0)), (1, .int x1), (2, .int v1), (3, .int (x3 + 1))]) [1, 2, 3, 0] dd_X1_roundLength_24 rfl (by decide) (by decide) rfl ?_
        refine ev_goto 4 dd_X1_roundLength_27 (by decide) ?_
        exact ih _ _ _
      · refine ev_lv (lv' := [(3, .int x3)]) [3] rfl ?_
        refine ev_iload_n dd_X1_roundLength_22 0 rfl ?_
        refine ev_lv (lv' := []) [] rfl ?_
        exact ev_iret dd_X1_roundLength_23 rfl (Nat.le_of_ble_eq_true rfl) rfl
set_option maxHeartbeats 1000000 in
set_option maxRecDepth 20000 in
theorem ct_X1_roundLength (l : Launch) (hl : l.stackTraces = false) (G : zG) (t : Nat) (ht : zsh t = 1) (a1 : Int32) (M : zM) : zMt l G Y_X1_roundLength 1 [.ref (G.2.1 + t), .int a1] M (F_X1_roundLength t a1 M) := by
  refine zMt_of (by decide +kernel) (Nat.le_of_ble_eq_true rfl) ?_
  show zEv l G Y_X1_roundLength 1 0 0 [(0, .ref (G.2.1 + t)), (1, .int a1)] [] M (F_X1_roundLength_L4 t a1 (fun  (M1 : zM) => zI 0 M1) zN a1 1 M)
  refine ev_iload_n dd_X1_roundLength_0 1 rfl ?_
  refine ev_istore_n (i := 2) (lv' := [(0, .ref (G.2.1 + t)), (1, .int a1), (2, .int a1)]) [1, 2, 0] dd_X1_roundLength_1 rfl (by decide) rfl ?_
  refine ev_iconst (v := 1) dd_X1_roundLength_2 (by decide) ?_
  refine ev_istore_n (i := 3) (lv' := [(0, .ref (G.2.1 + t)), (1, .int a1), (2, .int a1), (3, .int 1)]) [1, 2, 3, 0] dd_X1_roundLength_3 rfl (by decide) rfl ?_
  refine ct_X1_roundLength_L4 l hl G t ht a1 _ (fun M1 => ?_) zN _ _ _
  refine ev_iconst (v := 0) dd_X1_roundLength_30 (by decide) ?_
  exact ev_iret dd_X1_roundLength_31 rfl (Nat.le_of_ble_eq_true rfl) rfl
/-! X1_closeRounds -/
theorem dd_X1_closeRounds_0 : decode Y_X1_closeRounds.2.1 0 = .ok (.iload_n 1, 1) := by decide +kernel
theorem dd_X1_closeRounds_1 : decode Y_X1_closeRounds.2.1 1 = .ok (.istore_n 2, 1) := by decide +kernel
theorem dd_X1_closeRounds_2 : decode Y_X1_closeRounds.2.1 2 = .ok (.iconst 0, 1) := by decide +kernel
theorem dd_X1_closeRounds_3 : decode Y_X1_closeRounds.2.1 3 = .ok (.istore_n 3, 1) := by decide +kernel
theorem dd_X1_closeRounds_4 : decode Y_X1_closeRounds.2.1 4 = .ok (.iload_n 3, 1) := by decide +kernel
theorem dd_X1_closeRounds_5 : decode Y_X1_closeRounds.2.1 5 = .ok (.aload_n 0, 1) := by decide +kernel
theorem dd_X1_closeRounds_6 : decode Y_X1_closeRounds.2.1 6 = .ok (.getfield 25, 3) := by decide +kernel
theorem dd_X1_closeRounds_9 : decode Y_X1_closeRounds.2.1 9 = .ok (.getfield 51, 3) := by decide +kernel
theorem dd_X1_closeRounds_12 : decode Y_X1_closeRounds.2.1 12 = .ok (.if_icmp .ge 75, 3) := by decide +kernel
theorem dd_X1_closeRounds_15 : decode Y_X1_closeRounds.2.1 15 = .ok (.iload_n 1, 1) := by decide +kernel
theorem dd_X1_closeRounds_16 : decode Y_X1_closeRounds.2.1 16 = .ok (.iload_n 3, 1) := by decide +kernel
theorem dd_X1_closeRounds_17 : decode Y_X1_closeRounds.2.1 17 = .ok (.ishr, 1) := by decide +kernel
theorem dd_X1_closeRounds_18 : decode Y_X1_closeRounds.2.1 18 = .ok (.iconst 1, 1) := by decide +kernel
theorem dd_X1_closeRounds_19 : decode Y_X1_closeRounds.2.1 19 = .ok (.iand, 1) := by decide +kernel
theorem dd_X1_closeRounds_20 : decode Y_X1_closeRounds.2.1 20 = .ok (.iconst 1, 1) := by decide +kernel
theorem dd_X1_closeRounds_21 : decode Y_X1_closeRounds.2.1 21 = .ok (.if_icmp .ne 11, 3) := by decide +kernel
theorem dd_X1_closeRounds_24 : decode Y_X1_closeRounds.2.1 24 = .ok (.aload_n 0, 1) := by decide +kernel
theorem dd_X1_closeRounds_25 : decode Y_X1_closeRounds.2.1 25 = .ok (.iload_n 3, 1) := by decide +kernel
theorem dd_X1_closeRounds_26 : decode Y_X1_closeRounds.2.1 26 = .ok (.invokevirtual 66, 3) := by decide +kernel
theorem dd_X1_closeRounds_29 : decode Y_X1_closeRounds.2.1 29 = .ok (.goto 4, 3) := by decide +kernel
theorem dd_X1_closeRounds_32 : decode Y_X1_closeRounds.2.1 32 = .ok (.iconst 0, 1) := by decide +kernel
theorem dd_X1_closeRounds_33 : decode Y_X1_closeRounds.2.1 33 = .ok (.istore 4, 2) := by decide +kernel
theorem dd_X1_closeRounds_35 : decode Y_X1_closeRounds.2.1 35 = .ok (.iload 4, 2) := by decide +kernel
theorem dd_X1_closeRounds_37 : decode Y_X1_closeRounds.2.1 37 = .ok (.ifCond .le 44, 3) := by decide +kernel
theorem dd_X1_closeRounds_40 : decode Y_X1_closeRounds.2.1 40 = .ok (.aload_n 0, 1) := by decide +kernel
theorem dd_X1_closeRounds_41 : decode Y_X1_closeRounds.2.1 41 = .ok (.getfield 9, 3) := by decide +kernel
theorem dd_X1_closeRounds_44 : decode Y_X1_closeRounds.2.1 44 = .ok (.iload_n 3, 1) := by decide +kernel
theorem dd_X1_closeRounds_45 : decode Y_X1_closeRounds.2.1 45 = .ok (.aload_n 0, 1) := by decide +kernel
theorem dd_X1_closeRounds_46 : decode Y_X1_closeRounds.2.1 46 = .ok (.getfield 29, 3) := by decide +kernel
theorem dd_X1_closeRounds_49 : decode Y_X1_closeRounds.2.1 49 = .ok (.getfield 38, 3) := by decide +kernel
theorem dd_X1_closeRounds_52 : decode Y_X1_closeRounds.2.1 52 = .ok (.aload_n 0, 1) := by decide +kernel
theorem dd_X1_closeRounds_53 : decode Y_X1_closeRounds.2.1 53 = .ok (.getfield 19, 3) := by decide +kernel
theorem dd_X1_closeRounds_56 : decode Y_X1_closeRounds.2.1 56 = .ok (.iload_n 3, 1) := by decide +kernel
theorem dd_X1_closeRounds_57 : decode Y_X1_closeRounds.2.1 57 = .ok (.iaload, 1) := by decide +kernel
theorem dd_X1_closeRounds_58 : decode Y_X1_closeRounds.2.1 58 = .ok (.iaload, 1) := by decide +kernel
theorem dd_X1_closeRounds_59 : decode Y_X1_closeRounds.2.1 59 = .ok (.iastore, 1) := by decide +kernel
theorem dd_X1_closeRounds_60 : decode Y_X1_closeRounds.2.1 60 = .ok (.aload_n 0, 1) := by decide +kernel
theorem dd_X1_closeRounds_61 : decode Y_X1_closeRounds.2.1 61 = .ok (.aload_n 0, 1) := by decide +kernel
theorem dd_X1_closeRounds_62 : decode Y_X1_closeRounds.2.1 62 = .ok (.getfield 15, 3) := by decide +kernel
theorem dd_X1_closeRounds_65 : decode Y_X1_closeRounds.2.1 65 = .ok (.iload 4, 2) := by decide +kernel
theorem dd_X1_closeRounds_67 : decode Y_X1_closeRounds.2.1 67 = .ok (.invokestatic 69, 3) := by decide +kernel
theorem dd_X1_closeRounds_70 : decode Y_X1_closeRounds.2.1 70 = .ok (.putfield 15, 3) := by decide +kernel
theorem dd_X1_closeRounds_73 : decode Y_X1_closeRounds.2.1 73 = .ok (.iload_n 2, 1) := by decide +kernel
theorem dd_X1_closeRounds_74 : decode Y_X1_closeRounds.2.1 74 = .ok (.iconst 1, 1) := by decide +kernel
theorem dd_X1_closeRounds_75 : decode Y_X1_closeRounds.2.1 75 = .ok (.iload_n 3, 1) := by decide +kernel
theorem dd_X1_closeRounds_76 : decode Y_X1_closeRounds.2.1 76 = .ok (.ishl, 1) := by decide +kernel
theorem dd_X1_closeRounds_77 : decode Y_X1_closeRounds.2.1 77 = .ok (.iconst (-1), 1) := by decide +kernel
theorem dd_X1_closeRounds_78 : decode Y_X1_closeRounds.2.1 78 = .ok (.ixor, 1) := by decide +kernel
theorem dd_X1_closeRounds_79 : decode Y_X1_closeRounds.2.1 79 = .ok (.iand, 1) := by decide +kernel
theorem dd_X1_closeRounds_80 : decode Y_X1_closeRounds.2.1 80 = .ok (.istore_n 2, 1) := by decide +kernel
theorem dd_X1_closeRounds_81 : decode Y_X1_closeRounds.2.1 81 = .ok (.iinc 3 1, 3) := by decide +kernel
theorem dd_X1_closeRounds_84 : decode Y_X1_closeRounds.2.1 84 = .ok (.goto (-80), 3) := by decide +kernel
theorem dd_X1_closeRounds_87 : decode Y_X1_closeRounds.2.1 87 = .ok (.iload_n 2, 1) := by decide +kernel
theorem dd_X1_closeRounds_88 : decode Y_X1_closeRounds.2.1 88 = .ok (.ireturn, 1) := by decide +kernel
def F_X1_closeRounds_L4 (x0 : Nat) (x1 : Int32) (K87 : Int32 → zM → zO) : Nat → Int32 → Int32 → zM → zO
  | 0, _, _, _ => none
  | n + 1, x2, x3, M => zit ((M (zgr x0 0) 0) ≤ x3) (K87 x2 M) (zjo (fun (w1 : Int32) (M2 : zM) => zjo (fun (w2 : Int32) (M5 : zM) => F_X1_closeRounds_L4 x0 x1 K87 n w2 (x3 + 1) M5) (fun (k2 : Int32 → zM → zO) => zit (w1 ≤ 0) (k2 x2 M2) (zck (zin x3 8) (zck (zin (M2 (zgr x0 4) (zix x3)) 8) (zck (zin x3 8) (zst (zup M2 (zgr x0 2) (zix x3) (M2 (zgr (zgr x0 1) 1) (zix (M2 (zgr x0 4) (zix x3))))) (fun M3 => zst (zup M3 x0 3 (if (M3 x0 3) < w1 then w1 else M3 x0 3)) (fun M4 => zlt (x2 &&& (((1 : Int32) <<< (x3 &&& 31)) ^^^ (-1))) (fun v1 => k2 v1 M4))))))))) (fun (k1 : Int32 → zM → zO) => zit (((x1 >>> (x3 &&& 31)) &&& 1) = 1) (zbI (F_X1_roundLength x0 x3 M) (fun r1 M1 => k1 r1 M1)) (k1 0 M)))
def F_X1_closeRounds (t : Nat) (a1 : Int32) (M : zM) : zO := F_X1_closeRounds_L4 t a1 (fun (y1 : Int32) (M6 : zM) => zI y1 M6) zN a1 0 M
set_option maxHeartbeats 1000000 in
set_option maxRecDepth 20000 in
theorem ct_X1_closeRounds_L4 (l : Launch) (hl : l.stackTraces = false) (G : zG) (x0 : Nat) (hx0 : zsh x0 = 1) (x1 : Int32) (K87 : Int32 → zM → zO) (hK87 : ∀ (x2 : Int32) (M : zM), zEv l G Y_X1_closeRounds 8 0 87 [(2, .int x2)] [] M (K87 x2 M)) : ∀ (n : Nat) (x2 : Int32) (x3 : Int32) (M : zM), zEv l G Y_X1_closeRounds 8 0 4 [(0, .ref (G.2.1 + x0)), (1, .int x1), (2, .int x2), (3, .int x3)] [] M (F_X1_closeRounds_L4 x0 x1 K87 n x2 x3 M) := by
  intro n
  induction n with
  | zero => intro x2 x3 M; exact ev_none
  | succ n ih =>
    intro x2 x3 M
    show zEv l G Y_X1_closeRounds 8 0 4 [(0, .ref (G.2.1 + x0)), (1, .int x1), (2, .int x2), (3, .int x3)] [] M (zit ((M (zgr x0 0) 0) ≤ x3) (K87 x2 M) (zjo (fun (w1 : Int32) (M2 : zM) => zjo (fun (w2 : Int32) (M5 : zM) => F_X1_closeRounds_L4 x0 x1 K87 n w2 (x3 + 1) M5) (fun (k2 : Int32 → zM → zO) => zit (w1 ≤ 0) (k2 x2 M2) (zck (zin x3 8) (zck (zin (M2 (zgr x0 4) (zix x3)) 8) (zck (zin x3 8) (zst (zup M2 (zgr x0 2) (zix x3) (M2 (zgr (zgr x0 1) 1) (zix (M2 (zgr x0 4) (zix x3))))) (fun M3 => zst (zup M3 x0 3 (if (M3 x0 3) < w1 then w1 else M3 x0 3)) (fun M4 => zlt (x2 &&& (((1 : Int32) <<< (x3 &&& 31)) ^^^ (-1))) (fun v1 => k2 v1 M4))))))))) (fun (k1 : Int32 → zM → zO) => zit (((x1 >>> (x3 &&& 31)) &&& 1) = 1) (zbI (F_X1_roundLength x0 x3 M) (fun r1 M1 => k1 r1 M1)) (k1 0 M))))
    refine ev_iload_n dd_X1_closeRounds_4 3 rfl ?_
    refine ev_aload_n dd_X1_closeRounds_5 0 rfl ?_
    refine ev_getR gf_RX1_25 dd_X1_closeRounds_6 hx0 (by decide) ?_
    refine ev_getI gf_RX1_51 dd_X1_closeRounds_9 (zg_1_0 hx0) (by decide) ?_
    refine ev_icmp_ge 87 dd_X1_closeRounds_12 (by decide) ?_ ?_
    · refine ev_lv (lv' := [(2, .int x2)]) [2] rfl ?_
      exact hK87 _ _
    · refine ev_iload_n dd_X1_closeRounds_15 1 rfl ?_
      refine ev_iload_n dd_X1_closeRounds_16 3 rfl ?_
      refine ev_ishr dd_X1_closeRounds_17 ?_
      refine ev_iconst (v := 1) dd_X1_closeRounds_18 (by decide) ?_
      refine ev_iand dd_X1_closeRounds_19 ?_
      refine ev_iconst (v := 1) dd_X1_closeRounds_20 (by decide) ?_
      refine ev_jo (fun (k1 : Int32 → zM → zO) => ∀ (w1 : Int32) (M2 : zM), zEv l G Y_X1_closeRounds 8 0 33 [(0, .ref (G.2.1 + x0)), (1, .int x1), (2, .int x2), (3, .int x3)] [.int w1] M2 (k1 w1 M2)) ?_ (fun k1 hk1 => ?_)
      · intro w1 M2
        refine ev_istore (i := 4) (lv' := [(0, .ref (G.2.1 + x0)), (1, .int x1), (2, .int x2), (3, .int x3), (4, .int w1)]) [1, 2, 3, 4, 0] dd_X1_closeRounds_33 (by decide) rfl ?_
        refine ev_iload dd_X1_closeRounds_35 4 rfl ?_
        refine ev_jo (fun (k2 : Int32 → zM → zO) => ∀ (w2 : Int32) (M5 : zM), zEv l G Y_X1_closeRounds 8 0 81 [(0, .ref (G.2.1 + x0)), (1, .int x1), (2, .int w2), (3, .int x3)] [] M5 (k2 w2 M5)) ?_ (fun k2 hk2 => ?_)
        · intro w2 M5
          refine ev_iinc (j := 3) (v := 1) (lv' := [(0, .ref (G.2.1 + x0)), (1, .int x1), (2, .int w2), (3, .int (x3 + 1))]) [1, 2, 3, 0] dd_X1_closeRounds_81 rfl (by decide) (by decide) rfl ?_
          refine ev_goto 4 dd_X1_closeRounds_84 (by decide) ?_
          exact ih _ _ _
        · refine ev_if_le 81 dd_X1_closeRounds_37 (by decide) ?_ ?_
          · refine ev_lv (lv' := [(0, .ref (G.2.1 + x0)), (1, .int x1), (2, .int x2), (3, .int x3)]) [0, 1, 2, 3] rfl ?_
            exact hk2 _ _
          · refine ev_aload_n dd_X1_closeRounds_40 0 rfl ?_
            refine ev_getR gf_RX1_9 dd_X1_closeRounds_41 hx0 (by decide) ?_
            refine ev_iload_n dd_X1_closeRounds_44 3 rfl ?_
            refine ev_aload_n dd_X1_closeRounds_45 0 rfl ?_
            refine ev_getR gf_RX1_29 dd_X1_closeRounds_46 hx0 (by decide) ?_
            refine ev_getR gf_RX1_38 dd_X1_closeRounds_49 (zg_1_1 hx0) (by decide) ?_
            refine ev_aload_n dd_X1_closeRounds_52 0 rfl ?_
            refine ev_getR gf_RX1_19 dd_X1_closeRounds_53 hx0 (by decide) ?_
            refine ev_iload_n dd_X1_closeRounds_56 3 rfl ?_
            refine ev_iald dd_X1_closeRounds_57 ((zg_1_4 hx0).1) ((zg_1_4 hx0).2) ?_
            refine ev_iald dd_X1_closeRounds_58 ((zg_10_1 (zg_1_1 hx0)).1) ((zg_10_1 (zg_1_1 hx0)).2) ?_
            refine ev_iast dd_X1_closeRounds_59 ((zg_1_2 hx0).1) ((zg_1_2 hx0).2) ?_
            refine ev_st (fun M3 => ?_)
            refine ev_aload_n dd_X1_closeRounds_60 0 rfl ?_
            refine ev_aload_n dd_X1_closeRounds_61 0 rfl ?_
            refine ev_getI gf_RX1_15 dd_X1_closeRounds_62 hx0 (by decide) ?_
            refine ev_iload dd_X1_closeRounds_65 4 rfl ?_
            refine ev_lv (lv' := [(0, .ref (G.2.1 + x0)), (1, .int x1), (2, .int x2), (3, .int x3)]) [0, 1, 2, 3] rfl ?_
            refine ev_mmax mw_RX1_69 dd_X1_closeRounds_67 (Nat.le_of_ble_eq_true rfl) (Nat.le_of_ble_eq_true rfl) ?_
            refine ev_putI gw_RX1_15 dd_X1_closeRounds_70 hx0 (by decide) ?_
            refine ev_st (fun M4 => ?_)
            refine ev_iload_n dd_X1_closeRounds_73 2 rfl ?_
            refine ev_lv (lv' := [(0, .ref (G.2.1 + x0)), (1, .int x1), (3, .int x3)]) [0, 1, 3] rfl ?_
            refine ev_iconst (v := 1) dd_X1_closeRounds_74 (by decide) ?_
            refine ev_iload_n dd_X1_closeRounds_75 2 rfl ?_
            refine ev_ishl dd_X1_closeRounds_76 ?_
            refine ev_iconst (v := (-1)) dd_X1_closeRounds_77 (by decide) ?_
            refine ev_ixor dd_X1_closeRounds_78 ?_
            refine ev_iand dd_X1_closeRounds_79 ?_
            refine ev_topi (fun v1 => ?_)
            refine ev_istore_n (i := 2) (lv' := [(0, .ref (G.2.1 + x0)), (1, .int x1), (2, .int v1), (3, .int x3)]) [1, 2, 0, 3] dd_X1_closeRounds_80 rfl (by decide) rfl ?_
            exact hk2 _ _
      · refine ev_icmp_ne 32 dd_X1_closeRounds_21 (by decide) ?_ ?_
        · refine ev_iconst (v := 0) dd_X1_closeRounds_32 (by decide) ?_
          exact hk1 _ _
        · refine ev_aload_n dd_X1_closeRounds_24 0 rfl ?_
          refine ev_iload_n dd_X1_closeRounds_25 3 rfl ?_
          refine ev_callVI (As := [.int x3]) cl_RX1_66 (ct_X1_roundLength l hl G x0 hx0 x3 M) dd_X1_closeRounds_26 hx0 (by decide) (Nat.le_of_ble_eq_true rfl) (Nat.le_of_ble_eq_true rfl) rfl rfl (fun r1 M1 => ?_)
          refine ev_goto 33 dd_X1_closeRounds_29 (by decide) ?_
          exact hk1 _ _
set_option maxHeartbeats 1000000 in
set_option maxRecDepth 20000 in
theorem ct_X1_closeRounds (l : Launch) (hl : l.stackTraces = false) (G : zG) (t : Nat) (ht : zsh t = 1) (a1 : Int32) (M : zM) : zMt l G Y_X1_closeRounds 8 [.ref (G.2.1 + t), .int a1] M (F_X1_closeRounds t a1 M) := by
  refine zMt_of (by decide +kernel) (Nat.le_of_ble_eq_true rfl) ?_
  show zEv l G Y_X1_closeRounds 8 0 0 [(0, .ref (G.2.1 + t)), (1, .int a1)] [] M (F_X1_closeRounds_L4 t a1 (fun (y1 : Int32) (M6 : zM) => zI y1 M6) zN a1 0 M)
  refine ev_iload_n dd_X1_closeRounds_0 1 rfl ?_
  refine ev_istore_n (i := 2) (lv' := [(0, .ref (G.2.1 + t)), (1, .int a1), (2, .int a1)]) [1, 2, 0] dd_X1_closeRounds_1 rfl (by decide) rfl ?_
  refine ev_iconst (v := 0) dd_X1_closeRounds_2 (by decide) ?_
  refine ev_istore_n (i := 3) (lv' := [(0, .ref (G.2.1 + t)), (1, .int a1), (2, .int a1), (3, .int 0)]) [1, 2, 3, 0] dd_X1_closeRounds_3 rfl (by decide) rfl ?_
  refine ct_X1_closeRounds_L4 l hl G t ht a1 _ (fun y1 M6 => ?_) zN _ _ _
  refine ev_iload_n dd_X1_closeRounds_87 0 rfl ?_
  refine ev_lv (lv' := []) [] rfl ?_
  exact ev_iret dd_X1_closeRounds_88 rfl (Nat.le_of_ble_eq_true rfl) rfl
/-! X1_goRound -/
theorem dd_X1_goRound_0 : decode Y_X1_goRound.2.1 0 = .ok (.aload_n 0, 1) := by decide +kernel
theorem dd_X1_goRound_1 : decode Y_X1_goRound.2.1 1 = .ok (.iconst 0, 1) := by decide +kernel
theorem dd_X1_goRound_2 : decode Y_X1_goRound.2.1 2 = .ok (.putfield 15, 3) := by decide +kernel
theorem dd_X1_goRound_5 : decode Y_X1_goRound.2.1 5 = .ok (.iconst 1, 1) := by decide +kernel
theorem dd_X1_goRound_6 : decode Y_X1_goRound.2.1 6 = .ok (.aload_n 0, 1) := by decide +kernel
theorem dd_X1_goRound_7 : decode Y_X1_goRound.2.1 7 = .ok (.getfield 25, 3) := by decide +kernel
theorem dd_X1_goRound_10 : decode Y_X1_goRound.2.1 10 = .ok (.getfield 51, 3) := by decide +kernel
theorem dd_X1_goRound_13 : decode Y_X1_goRound.2.1 13 = .ok (.ishl, 1) := by decide +kernel
theorem dd_X1_goRound_14 : decode Y_X1_goRound.2.1 14 = .ok (.iconst 1, 1) := by decide +kernel
theorem dd_X1_goRound_15 : decode Y_X1_goRound.2.1 15 = .ok (.isub, 1) := by decide +kernel
theorem dd_X1_goRound_16 : decode Y_X1_goRound.2.1 16 = .ok (.istore_n 1, 1) := by decide +kernel
theorem dd_X1_goRound_17 : decode Y_X1_goRound.2.1 17 = .ok (.iconst 0, 1) := by decide +kernel
theorem dd_X1_goRound_18 : decode Y_X1_goRound.2.1 18 = .ok (.istore_n 2, 1) := by decide +kernel
theorem dd_X1_goRound_19 : decode Y_X1_goRound.2.1 19 = .ok (.iload_n 2, 1) := by decide +kernel
theorem dd_X1_goRound_20 : decode Y_X1_goRound.2.1 20 = .ok (.bipush 8, 2) := by decide +kernel
theorem dd_X1_goRound_22 : decode Y_X1_goRound.2.1 22 = .ok (.if_icmp .ge 24, 3) := by decide +kernel
theorem dd_X1_goRound_25 : decode Y_X1_goRound.2.1 25 = .ok (.iload_n 1, 1) := by decide +kernel
theorem dd_X1_goRound_26 : decode Y_X1_goRound.2.1 26 = .ok (.ifCond .eq 20, 3) := by decide +kernel
theorem dd_X1_goRound_29 : decode Y_X1_goRound.2.1 29 = .ok (.aload_n 0, 1) := by decide +kernel
theorem dd_X1_goRound_30 : decode Y_X1_goRound.2.1 30 = .ok (.iload_n 1, 1) := by decide +kernel
theorem dd_X1_goRound_31 : decode Y_X1_goRound.2.1 31 = .ok (.invokevirtual 58, 3) := by decide +kernel
theorem dd_X1_goRound_34 : decode Y_X1_goRound.2.1 34 = .ok (.aload_n 0, 1) := by decide +kernel
theorem dd_X1_goRound_35 : decode Y_X1_goRound.2.1 35 = .ok (.iload_n 1, 1) := by decide +kernel
theorem dd_X1_goRound_36 : decode Y_X1_goRound.2.1 36 = .ok (.invokevirtual 62, 3) := by decide +kernel
theorem dd_X1_goRound_39 : decode Y_X1_goRound.2.1 39 = .ok (.istore_n 1, 1) := by decide +kernel
theorem dd_X1_goRound_40 : decode Y_X1_goRound.2.1 40 = .ok (.iinc 2 1, 3) := by decide +kernel
theorem dd_X1_goRound_43 : decode Y_X1_goRound.2.1 43 = .ok (.goto (-24), 3) := by decide +kernel
theorem dd_X1_goRound_46 : decode Y_X1_goRound.2.1 46 = .ok (.return_, 1) := by decide +kernel
def F_X1_goRound_L19 (x0 : Nat) (K46 : zM → zO) : Nat → Int32 → Int32 → zM → zO
  | 0, _, _, _ => none
  | n + 1, x1, x2, M => zit (8 ≤ x2) (K46 M) (zit (x1 = 0) (K46 M) (zbV (F_X1_aim x0 x1 M) (fun M2 => zbI (F_X1_closeRounds x0 x1 M2) (fun r1 M3 => F_X1_goRound_L19 x0 K46 n r1 (x2 + 1) M3))))
def F_X1_goRound (t : Nat) (M : zM) : zO := zst (zup M t 3 0) (fun M1 => zlt (((1 : Int32) <<< ((M1 (zgr t 0) 0) &&& 31)) - 1) (fun v1 => F_X1_goRound_L19 t (fun  (M4 : zM) => zV M4) zN v1 0 M1))
set_option maxHeartbeats 1000000 in
set_option maxRecDepth 20000 in
theorem ct_X1_goRound_L19 (l : Launch) (hl : l.stackTraces = false) (G : zG) (x0 : Nat) (hx0 : zsh x0 = 1) (K46 : zM → zO) (hK46 : ∀  (M : zM), zEv l G Y_X1_goRound 9 0 46 [] [] M (K46 M)) : ∀ (n : Nat) (x1 : Int32) (x2 : Int32) (M : zM), zEv l G Y_X1_goRound 9 0 19 [(0, .ref (G.2.1 + x0)), (1, .int x1), (2, .int x2)] [] M (F_X1_goRound_L19 x0 K46 n x1 x2 M) := by
  intro n
  induction n with
  | zero => intro x1 x2 M; exact ev_none
  | succ n ih =>
    intro x1 x2 M
    show zEv l G Y_X1_goRound 9 0 19 [(0, .ref (G.2.1 + x0)), (1, .int x1), (2, .int x2)] [] M (zit (8 ≤ x2) (K46 M) (zit (x1 = 0) (K46 M) (zbV (F_X1_aim x0 x1 M) (fun M2 => zbI (F_X1_closeRounds x0 x1 M2) (fun r1 M3 => F_X1_goRound_L19 x0 K46 n r1 (x2 + 1) M3)))))
    refine ev_iload_n dd_X1_goRound_19 2 rfl ?_
    refine ev_bipush (v := 8) dd_X1_goRound_20 (by decide) ?_
    refine ev_icmp_ge 46 dd_X1_goRound_22 (by decide) ?_ ?_
    · refine ev_lv (lv' := []) [] rfl ?_
      exact hK46 _
    · refine ev_iload_n dd_X1_goRound_25 1 rfl ?_
      refine ev_if_eq 46 dd_X1_goRound_26 (by decide) ?_ ?_
      · refine ev_lv (lv' := []) [] rfl ?_
        exact hK46 _
      · refine ev_aload_n dd_X1_goRound_29 0 rfl ?_
        refine ev_iload_n dd_X1_goRound_30 1 rfl ?_
        refine ev_callVV (As := [.int x1]) cl_RX1_58 (ct_X1_aim l hl G x0 hx0 x1 M) dd_X1_goRound_31 hx0 (by decide) (Nat.le_of_ble_eq_true rfl) (Nat.le_of_ble_eq_true rfl) rfl rfl (fun M2 => ?_)
        refine ev_aload_n dd_X1_goRound_34 0 rfl ?_
        refine ev_iload_n dd_X1_goRound_35 1 rfl ?_
        refine ev_lv (lv' := [(0, .ref (G.2.1 + x0)), (2, .int x2)]) [0, 2] rfl ?_
        refine ev_callVI (As := [.int x1]) cl_RX1_62 (ct_X1_closeRounds l hl G x0 hx0 x1 M2) dd_X1_goRound_36 hx0 (by decide) (Nat.le_of_ble_eq_true rfl) (Nat.le_of_ble_eq_true rfl) rfl rfl (fun r1 M3 => ?_)
        refine ev_istore_n (i := 1) (lv' := [(0, .ref (G.2.1 + x0)), (1, .int r1), (2, .int x2)]) [1, 0, 2] dd_X1_goRound_39 rfl (by decide) rfl ?_
        refine ev_iinc (j := 2) (v := 1) (lv' := [(0, .ref (G.2.1 + x0)), (1, .int r1), (2, .int (x2 + 1))]) [1, 2, 0] dd_X1_goRound_40 rfl (by decide) (by decide) rfl ?_
        refine ev_goto 19 dd_X1_goRound_43 (by decide) ?_
        exact ih _ _ _
set_option maxHeartbeats 1000000 in
set_option maxRecDepth 20000 in
theorem ct_X1_goRound (l : Launch) (hl : l.stackTraces = false) (G : zG) (t : Nat) (ht : zsh t = 1) (M : zM) : zMt l G Y_X1_goRound 9 [.ref (G.2.1 + t)] M (F_X1_goRound t M) := by
  refine zMt_of (by decide +kernel) (Nat.le_of_ble_eq_true rfl) ?_
  show zEv l G Y_X1_goRound 9 0 0 [(0, .ref (G.2.1 + t))] [] M (zst (zup M t 3 0) (fun M1 => zlt (((1 : Int32) <<< ((M1 (zgr t 0) 0) &&& 31)) - 1) (fun v1 => F_X1_goRound_L19 t (fun  (M4 : zM) => zV M4) zN v1 0 M1)))
  refine ev_aload_n dd_X1_goRound_0 0 rfl ?_
  refine ev_iconst (v := 0) dd_X1_goRound_1 (by decide) ?_
  refine ev_putI gw_RX1_15 dd_X1_goRound_2 ht (by decide) ?_
  refine ev_st (fun M1 => ?_)
  refine ev_iconst (v := 1) dd_X1_goRound_5 (by decide) ?_
  refine ev_aload_n dd_X1_goRound_6 0 rfl ?_
  refine ev_getR gf_RX1_25 dd_X1_goRound_7 ht (by decide) ?_
  refine ev_getI gf_RX1_51 dd_X1_goRound_10 (zg_1_0 ht) (by decide) ?_
  refine ev_ishl dd_X1_goRound_13 ?_
  refine ev_iconst (v := 1) dd_X1_goRound_14 (by decide) ?_
  refine ev_isub dd_X1_goRound_15 ?_
  refine ev_topi (fun v1 => ?_)
  refine ev_istore_n (i := 1) (lv' := [(0, .ref (G.2.1 + t)), (1, .int v1)]) [1, 0] dd_X1_goRound_16 rfl (by decide) rfl ?_
  refine ev_iconst (v := 0) dd_X1_goRound_17 (by decide) ?_
  refine ev_istore_n (i := 2) (lv' := [(0, .ref (G.2.1 + t)), (1, .int v1), (2, .int 0)]) [1, 2, 0] dd_X1_goRound_18 rfl (by decide) rfl ?_
  refine ct_X1_goRound_L19 l hl G t ht _ (fun M4 => ?_) zN _ _ _
  exact ev_vret dd_X1_goRound_46 rfl (Nat.le_of_ble_eq_true rfl) rfl
/-! X11_round -/
theorem dd_X11_round_0 : decode Y_X11_round.2.1 0 = .ok (.aload_n 0, 1) := by decide +kernel
theorem dd_X11_round_1 : decode Y_X11_round.2.1 1 = .ok (.iload_n 1, 1) := by decide +kernel
theorem dd_X11_round_2 : decode Y_X11_round.2.1 2 = .ok (.invokevirtual 254, 3) := by decide +kernel
theorem dd_X11_round_5 : decode Y_X11_round.2.1 5 = .ok (.aload_n 0, 1) := by decide +kernel
theorem dd_X11_round_6 : decode Y_X11_round.2.1 6 = .ok (.getfield 65, 3) := by decide +kernel
theorem dd_X11_round_9 : decode Y_X11_round.2.1 9 = .ok (.invokevirtual 257, 3) := by decide +kernel
theorem dd_X11_round_12 : decode Y_X11_round.2.1 12 = .ok (.iload_n 1, 1) := by decide +kernel
theorem dd_X11_round_13 : decode Y_X11_round.2.1 13 = .ok (.iconst (-1), 1) := by decide +kernel
theorem dd_X11_round_14 : decode Y_X11_round.2.1 14 = .ok (.if_icmp .ne 13, 3) := by decide +kernel
theorem dd_X11_round_17 : decode Y_X11_round.2.1 17 = .ok (.aload_n 0, 1) := by decide +kernel
theorem dd_X11_round_18 : decode Y_X11_round.2.1 18 = .ok (.getfield 65, 3) := by decide +kernel
theorem dd_X11_round_21 : decode Y_X11_round.2.1 21 = .ok (.getfield 260, 3) := by decide +kernel
theorem dd_X11_round_24 : decode Y_X11_round.2.1 24 = .ok (.goto 12, 3) := by decide +kernel
theorem dd_X11_round_27 : decode Y_X11_round.2.1 27 = .ok (.aload_n 0, 1) := by decide +kernel
theorem dd_X11_round_28 : decode Y_X11_round.2.1 28 = .ok (.getfield 65, 3) := by decide +kernel
theorem dd_X11_round_31 : decode Y_X11_round.2.1 31 = .ok (.getfield 263, 3) := by decide +kernel
theorem dd_X11_round_34 : decode Y_X11_round.2.1 34 = .ok (.iload_n 1, 1) := by decide +kernel
theorem dd_X11_round_35 : decode Y_X11_round.2.1 35 = .ok (.iaload, 1) := by decide +kernel
theorem dd_X11_round_36 : decode Y_X11_round.2.1 36 = .ok (.ireturn, 1) := by decide +kernel
def F_X11_round (t : Nat) (a1 : Int32) (M : zM) : zO := zbV (F_X11_needIsleOrNone t a1 M) (fun M1 => zbV (F_X1_goRound (zgr t 9) M1) (fun M2 => zjo (fun (w1 : Int32) (M3 : zM) => zI w1 M3) (fun (k1 : Int32 → zM → zO) => zit (a1 = (-1)) (k1 (M2 (zgr t 9) 3) M2) (zck (zin a1 8) (k1 (M2 (zgr (zgr t 9) 2) (zix a1)) M2)))))
set_option maxHeartbeats 1000000 in
set_option maxRecDepth 20000 in
theorem ct_X11_round (l : Launch) (hl : l.stackTraces = false) (G : zG) (t : Nat) (ht : zsh t = 11) (a1 : Int32) (M : zM) : zMt l G Y_X11_round 10 [.ref (G.2.1 + t), .int a1] M (F_X11_round t a1 M) := by
  refine zMt_of (by decide +kernel) (Nat.le_of_ble_eq_true rfl) ?_
  show zEv l G Y_X11_round 10 0 0 [(0, .ref (G.2.1 + t)), (1, .int a1)] [] M (zbV (F_X11_needIsleOrNone t a1 M) (fun M1 => zbV (F_X1_goRound (zgr t 9) M1) (fun M2 => zjo (fun (w1 : Int32) (M3 : zM) => zI w1 M3) (fun (k1 : Int32 → zM → zO) => zit (a1 = (-1)) (k1 (M2 (zgr t 9) 3) M2) (zck (zin a1 8) (k1 (M2 (zgr (zgr t 9) 2) (zix a1)) M2))))))
  refine ev_aload_n dd_X11_round_0 0 rfl ?_
  refine ev_iload_n dd_X11_round_1 1 rfl ?_
  refine ev_callVV (As := [.int a1]) cl_RX11_254 (ct_X11_needIsleOrNone l hl G t ht a1 M) dd_X11_round_2 ht (by decide) (Nat.le_of_ble_eq_true rfl) (Nat.le_of_ble_eq_true rfl) rfl rfl (fun M1 => ?_)
  refine ev_aload_n dd_X11_round_5 0 rfl ?_
  refine ev_getR gf_RX11_65 dd_X11_round_6 ht (by decide) ?_
  refine ev_callVV (As := []) cl_RX11_257 (ct_X1_goRound l hl G (zgr t 9) (zg_11_9 ht) M1) dd_X11_round_9 (zg_11_9 ht) (by decide) (Nat.le_of_ble_eq_true rfl) (Nat.le_of_ble_eq_true rfl) rfl rfl (fun M2 => ?_)
  refine ev_iload_n dd_X11_round_12 1 rfl ?_
  refine ev_iconst (v := (-1)) dd_X11_round_13 (by decide) ?_
  refine ev_jo (fun (k1 : Int32 → zM → zO) => ∀ (w1 : Int32) (M3 : zM), zEv l G Y_X11_round 10 1 36 [] [.int w1] M3 (k1 w1 M3)) ?_ (fun k1 hk1 => ?_)
  · intro w1 M3
    exact ev_iret dd_X11_round_36 rfl (Nat.le_of_ble_eq_true rfl) rfl
  · refine ev_icmp_ne 27 dd_X11_round_14 (by decide) ?_ ?_
    · refine ev_aload_n dd_X11_round_27 0 rfl ?_
      refine ev_lv (lv' := [(1, .int a1)]) [1] rfl ?_
      refine ev_getR gf_RX11_65 dd_X11_round_28 ht (by decide) ?_
      refine ev_getR gf_RX11_263 dd_X11_round_31 (zg_11_9 ht) (by decide) ?_
      refine ev_iload_n dd_X11_round_34 0 rfl ?_
      refine ev_lv (lv' := []) [] rfl ?_
      refine ev_iald dd_X11_round_35 ((zg_1_2 (zg_11_9 ht)).1) ((zg_1_2 (zg_11_9 ht)).2) ?_
      exact hk1 _ _
    · refine ev_lv (lv' := [(0, .ref (G.2.1 + t))]) [0] rfl ?_
      refine ev_aload_n dd_X11_round_17 0 rfl ?_
      refine ev_lv (lv' := []) [] rfl ?_
      refine ev_getR gf_RX11_65 dd_X11_round_18 ht (by decide) ?_
      refine ev_getI gf_RX11_260 dd_X11_round_21 (zg_11_9 ht) (by decide) ?_
      refine ev_goto 36 dd_X11_round_24 (by decide) ?_
      exact hk1 _ _
/-! X6_farFrom -/
theorem dd_X6_farFrom_0 : decode Y_X6_farFrom.2.1 0 = .ok (.aload_n 0, 1) := by decide +kernel
theorem dd_X6_farFrom_1 : decode Y_X6_farFrom.2.1 1 = .ok (.getfield 39, 3) := by decide +kernel
theorem dd_X6_farFrom_4 : decode Y_X6_farFrom.2.1 4 = .ok (.iload_n 1, 1) := by decide +kernel
theorem dd_X6_farFrom_5 : decode Y_X6_farFrom.2.1 5 = .ok (.iaload, 1) := by decide +kernel
theorem dd_X6_farFrom_6 : decode Y_X6_farFrom.2.1 6 = .ok (.iload_n 2, 1) := by decide +kernel
theorem dd_X6_farFrom_7 : decode Y_X6_farFrom.2.1 7 = .ok (.isub, 1) := by decide +kernel
theorem dd_X6_farFrom_8 : decode Y_X6_farFrom.2.1 8 = .ok (.invokestatic 86, 3) := by decide +kernel
theorem dd_X6_farFrom_11 : decode Y_X6_farFrom.2.1 11 = .ok (.aload_n 0, 1) := by decide +kernel
theorem dd_X6_farFrom_12 : decode Y_X6_farFrom.2.1 12 = .ok (.getfield 43, 3) := by decide +kernel
theorem dd_X6_farFrom_15 : decode Y_X6_farFrom.2.1 15 = .ok (.iload_n 1, 1) := by decide +kernel
theorem dd_X6_farFrom_16 : decode Y_X6_farFrom.2.1 16 = .ok (.iaload, 1) := by decide +kernel
theorem dd_X6_farFrom_17 : decode Y_X6_farFrom.2.1 17 = .ok (.iload_n 3, 1) := by decide +kernel
theorem dd_X6_farFrom_18 : decode Y_X6_farFrom.2.1 18 = .ok (.isub, 1) := by decide +kernel
theorem dd_X6_farFrom_19 : decode Y_X6_farFrom.2.1 19 = .ok (.invokestatic 86, 3) := by decide +kernel
theorem dd_X6_farFrom_22 : decode Y_X6_farFrom.2.1 22 = .ok (.iadd, 1) := by decide +kernel
theorem dd_X6_farFrom_23 : decode Y_X6_farFrom.2.1 23 = .ok (.ireturn, 1) := by decide +kernel
def F_X6_farFrom (t : Nat) (a1 : Int32) (a2 : Int32) (a3 : Int32) (M : zM) : zO := zck (zin a1 8) (zck (zin a1 8) (zI ((if 0 ≤ ((M (zgr t 6) (zix a1)) - a2) then (M (zgr t 6) (zix a1)) - a2 else 0 - ((M (zgr t 6) (zix a1)) - a2)) + (if 0 ≤ ((M (zgr t 7) (zix a1)) - a3) then (M (zgr t 7) (zix a1)) - a3 else 0 - ((M (zgr t 7) (zix a1)) - a3))) M))
set_option maxHeartbeats 1000000 in
set_option maxRecDepth 20000 in
theorem ct_X6_farFrom (l : Launch) (hl : l.stackTraces = false) (G : zG) (t : Nat) (ht : zsh t = 6) (a1 : Int32) (a2 : Int32) (a3 : Int32) (M : zM) : zMt l G Y_X6_farFrom 8 [.ref (G.2.1 + t), .int a1, .int a2, .int a3] M (F_X6_farFrom t a1 a2 a3 M) := by
  refine zMt_of (by decide +kernel) (Nat.le_of_ble_eq_true rfl) ?_
  show zEv l G Y_X6_farFrom 8 0 0 [(0, .ref (G.2.1 + t)), (1, .int a1), (2, .int a2), (3, .int a3)] [] M (zck (zin a1 8) (zck (zin a1 8) (zI ((if 0 ≤ ((M (zgr t 6) (zix a1)) - a2) then (M (zgr t 6) (zix a1)) - a2 else 0 - ((M (zgr t 6) (zix a1)) - a2)) + (if 0 ≤ ((M (zgr t 7) (zix a1)) - a3) then (M (zgr t 7) (zix a1)) - a3 else 0 - ((M (zgr t 7) (zix a1)) - a3))) M)))
  refine ev_aload_n dd_X6_farFrom_0 0 rfl ?_
  refine ev_getR gf_RX6_39 dd_X6_farFrom_1 ht (by decide) ?_
  refine ev_iload_n dd_X6_farFrom_4 1 rfl ?_
  refine ev_iald dd_X6_farFrom_5 ((zg_6_6 ht).1) ((zg_6_6 ht).2) ?_
  refine ev_iload_n dd_X6_farFrom_6 2 rfl ?_
  refine ev_lv (lv' := [(0, .ref (G.2.1 + t)), (1, .int a1), (3, .int a3)]) [0, 1, 3] rfl ?_
  refine ev_isub dd_X6_farFrom_7 ?_
  refine ev_mabs mw_RX6_86 dd_X6_farFrom_8 (Nat.le_of_ble_eq_true rfl) (Nat.le_of_ble_eq_true rfl) ?_
  refine ev_aload_n dd_X6_farFrom_11 0 rfl ?_
  refine ev_lv (lv' := [(1, .int a1), (3, .int a3)]) [1, 2] rfl ?_
  refine ev_getR gf_RX6_43 dd_X6_farFrom_12 ht (by decide) ?_
  refine ev_iload_n dd_X6_farFrom_15 0 rfl ?_
  refine ev_lv (lv' := [(3, .int a3)]) [1] rfl ?_
  refine ev_iald dd_X6_farFrom_16 ((zg_6_7 ht).1) ((zg_6_7 ht).2) ?_
  refine ev_iload_n dd_X6_farFrom_17 0 rfl ?_
  refine ev_lv (lv' := []) [] rfl ?_
  refine ev_isub dd_X6_farFrom_18 ?_
  refine ev_mabs mw_RX6_86 dd_X6_farFrom_19 (Nat.le_of_ble_eq_true rfl) (Nat.le_of_ble_eq_true rfl) ?_
  refine ev_iadd dd_X6_farFrom_22 ?_
  exact ev_iret dd_X6_farFrom_23 rfl (Nat.le_of_ble_eq_true rfl) rfl
/-! X11_sail -/
theorem dd_X11_sail_0 : decode Y_X11_sail.2.1 0 = .ok (.iload_n 1, 1) := by decide +kernel
theorem dd_X11_sail_1 : decode Y_X11_sail.2.1 1 = .ok (.istore 4, 2) := by decide +kernel
theorem dd_X11_sail_3 : decode Y_X11_sail.2.1 3 = .ok (.iload_n 2, 1) := by decide +kernel
theorem dd_X11_sail_4 : decode Y_X11_sail.2.1 4 = .ok (.istore 5, 2) := by decide +kernel
theorem dd_X11_sail_6 : decode Y_X11_sail.2.1 6 = .ok (.iconst 0, 1) := by decide +kernel
theorem dd_X11_sail_7 : decode Y_X11_sail.2.1 7 = .ok (.istore 6, 2) := by decide +kernel
theorem dd_X11_sail_9 : decode Y_X11_sail.2.1 9 = .ok (.iload 6, 2) := by decide +kernel
theorem dd_X11_sail_11 : decode Y_X11_sail.2.1 11 = .ok (.bipush 100, 2) := by decide +kernel
theorem dd_X11_sail_13 : decode Y_X11_sail.2.1 13 = .ok (.if_icmp .gt 172, 3) := by decide +kernel
theorem dd_X11_sail_16 : decode Y_X11_sail.2.1 16 = .ok (.aload_n 0, 1) := by decide +kernel
theorem dd_X11_sail_17 : decode Y_X11_sail.2.1 17 = .ok (.getfield 44, 3) := by decide +kernel
theorem dd_X11_sail_20 : decode Y_X11_sail.2.1 20 = .ok (.getfield 206, 3) := by decide +kernel
theorem dd_X11_sail_23 : decode Y_X11_sail.2.1 23 = .ok (.iload_n 3, 1) := by decide +kernel
theorem dd_X11_sail_24 : decode Y_X11_sail.2.1 24 = .ok (.iaload, 1) := by decide +kernel
theorem dd_X11_sail_25 : decode Y_X11_sail.2.1 25 = .ok (.istore 7, 2) := by decide +kernel
theorem dd_X11_sail_27 : decode Y_X11_sail.2.1 27 = .ok (.iload 6, 2) := by decide +kernel
theorem dd_X11_sail_29 : decode Y_X11_sail.2.1 29 = .ok (.ifCond .le 118, 3) := by decide +kernel
theorem dd_X11_sail_32 : decode Y_X11_sail.2.1 32 = .ok (.aload_n 0, 1) := by decide +kernel
theorem dd_X11_sail_33 : decode Y_X11_sail.2.1 33 = .ok (.getfield 19, 3) := by decide +kernel
theorem dd_X11_sail_36 : decode Y_X11_sail.2.1 36 = .ok (.getfield 148, 3) := by decide +kernel
theorem dd_X11_sail_39 : decode Y_X11_sail.2.1 39 = .ok (.aload_n 0, 1) := by decide +kernel
theorem dd_X11_sail_40 : decode Y_X11_sail.2.1 40 = .ok (.getfield 19, 3) := by decide +kernel
theorem dd_X11_sail_43 : decode Y_X11_sail.2.1 43 = .ok (.getfield 181, 3) := by decide +kernel
theorem dd_X11_sail_46 : decode Y_X11_sail.2.1 46 = .ok (.iload 7, 2) := by decide +kernel
theorem dd_X11_sail_48 : decode Y_X11_sail.2.1 48 = .ok (.iaload, 1) := by decide +kernel
theorem dd_X11_sail_49 : decode Y_X11_sail.2.1 49 = .ok (.iload 4, 2) := by decide +kernel
theorem dd_X11_sail_51 : decode Y_X11_sail.2.1 51 = .ok (.isub, 1) := by decide +kernel
theorem dd_X11_sail_52 : decode Y_X11_sail.2.1 52 = .ok (.invokestatic 379, 3) := by decide +kernel
theorem dd_X11_sail_55 : decode Y_X11_sail.2.1 55 = .ok (.invokestatic 384, 3) := by decide +kernel
theorem dd_X11_sail_58 : decode Y_X11_sail.2.1 58 = .ok (.istore 8, 2) := by decide +kernel
theorem dd_X11_sail_60 : decode Y_X11_sail.2.1 60 = .ok (.aload_n 0, 1) := by decide +kernel
theorem dd_X11_sail_61 : decode Y_X11_sail.2.1 61 = .ok (.getfield 19, 3) := by decide +kernel
theorem dd_X11_sail_64 : decode Y_X11_sail.2.1 64 = .ok (.getfield 148, 3) := by decide +kernel
theorem dd_X11_sail_67 : decode Y_X11_sail.2.1 67 = .ok (.iload 8, 2) := by decide +kernel
theorem dd_X11_sail_69 : decode Y_X11_sail.2.1 69 = .ok (.isub, 1) := by decide +kernel
theorem dd_X11_sail_70 : decode Y_X11_sail.2.1 70 = .ok (.aload_n 0, 1) := by decide +kernel
theorem dd_X11_sail_71 : decode Y_X11_sail.2.1 71 = .ok (.getfield 19, 3) := by decide +kernel
theorem dd_X11_sail_74 : decode Y_X11_sail.2.1 74 = .ok (.getfield 184, 3) := by decide +kernel
theorem dd_X11_sail_77 : decode Y_X11_sail.2.1 77 = .ok (.iload 7, 2) := by decide +kernel
theorem dd_X11_sail_79 : decode Y_X11_sail.2.1 79 = .ok (.iaload, 1) := by decide +kernel
theorem dd_X11_sail_80 : decode Y_X11_sail.2.1 80 = .ok (.iload 5, 2) := by decide +kernel
theorem dd_X11_sail_82 : decode Y_X11_sail.2.1 82 = .ok (.isub, 1) := by decide +kernel
theorem dd_X11_sail_83 : decode Y_X11_sail.2.1 83 = .ok (.invokestatic 379, 3) := by decide +kernel
theorem dd_X11_sail_86 : decode Y_X11_sail.2.1 86 = .ok (.invokestatic 384, 3) := by decide +kernel
theorem dd_X11_sail_89 : decode Y_X11_sail.2.1 89 = .ok (.istore 9, 2) := by decide +kernel
theorem dd_X11_sail_91 : decode Y_X11_sail.2.1 91 = .ok (.iload 4, 2) := by decide +kernel
theorem dd_X11_sail_93 : decode Y_X11_sail.2.1 93 = .ok (.aload_n 0, 1) := by decide +kernel
theorem dd_X11_sail_94 : decode Y_X11_sail.2.1 94 = .ok (.getfield 19, 3) := by decide +kernel
theorem dd_X11_sail_97 : decode Y_X11_sail.2.1 97 = .ok (.getfield 181, 3) := by decide +kernel
theorem dd_X11_sail_100 : decode Y_X11_sail.2.1 100 = .ok (.iload 7, 2) := by decide +kernel
theorem dd_X11_sail_102 : decode Y_X11_sail.2.1 102 = .ok (.iaload, 1) := by decide +kernel
theorem dd_X11_sail_103 : decode Y_X11_sail.2.1 103 = .ok (.iload 4, 2) := by decide +kernel
theorem dd_X11_sail_105 : decode Y_X11_sail.2.1 105 = .ok (.if_icmp .ge 9, 3) := by decide +kernel
theorem dd_X11_sail_108 : decode Y_X11_sail.2.1 108 = .ok (.iload 8, 2) := by decide +kernel
theorem dd_X11_sail_110 : decode Y_X11_sail.2.1 110 = .ok (.ineg, 1) := by decide +kernel
theorem dd_X11_sail_111 : decode Y_X11_sail.2.1 111 = .ok (.goto 5, 3) := by decide +kernel
theorem dd_X11_sail_114 : decode Y_X11_sail.2.1 114 = .ok (.iload 8, 2) := by decide +kernel
theorem dd_X11_sail_116 : decode Y_X11_sail.2.1 116 = .ok (.iadd, 1) := by decide +kernel
theorem dd_X11_sail_117 : decode Y_X11_sail.2.1 117 = .ok (.istore 4, 2) := by decide +kernel
theorem dd_X11_sail_119 : decode Y_X11_sail.2.1 119 = .ok (.iload 5, 2) := by decide +kernel
theorem dd_X11_sail_121 : decode Y_X11_sail.2.1 121 = .ok (.aload_n 0, 1) := by decide +kernel
theorem dd_X11_sail_122 : decode Y_X11_sail.2.1 122 = .ok (.getfield 19, 3) := by decide +kernel
theorem dd_X11_sail_125 : decode Y_X11_sail.2.1 125 = .ok (.getfield 184, 3) := by decide +kernel
theorem dd_X11_sail_128 : decode Y_X11_sail.2.1 128 = .ok (.iload 7, 2) := by decide +kernel
theorem dd_X11_sail_130 : decode Y_X11_sail.2.1 130 = .ok (.iaload, 1) := by decide +kernel
theorem dd_X11_sail_131 : decode Y_X11_sail.2.1 131 = .ok (.iload 5, 2) := by decide +kernel
theorem dd_X11_sail_133 : decode Y_X11_sail.2.1 133 = .ok (.if_icmp .ge 9, 3) := by decide +kernel
theorem dd_X11_sail_136 : decode Y_X11_sail.2.1 136 = .ok (.iload 9, 2) := by decide +kernel
theorem dd_X11_sail_138 : decode Y_X11_sail.2.1 138 = .ok (.ineg, 1) := by decide +kernel
theorem dd_X11_sail_139 : decode Y_X11_sail.2.1 139 = .ok (.goto 5, 3) := by decide +kernel
theorem dd_X11_sail_142 : decode Y_X11_sail.2.1 142 = .ok (.iload 9, 2) := by decide +kernel
theorem dd_X11_sail_144 : decode Y_X11_sail.2.1 144 = .ok (.iadd, 1) := by decide +kernel
theorem dd_X11_sail_145 : decode Y_X11_sail.2.1 145 = .ok (.istore 5, 2) := by decide +kernel
theorem dd_X11_sail_147 : decode Y_X11_sail.2.1 147 = .ok (.aload_n 0, 1) := by decide +kernel
theorem dd_X11_sail_148 : decode Y_X11_sail.2.1 148 = .ok (.getfield 19, 3) := by decide +kernel
theorem dd_X11_sail_151 : decode Y_X11_sail.2.1 151 = .ok (.iload 7, 2) := by decide +kernel
theorem dd_X11_sail_153 : decode Y_X11_sail.2.1 153 = .ok (.iload 4, 2) := by decide +kernel
theorem dd_X11_sail_155 : decode Y_X11_sail.2.1 155 = .ok (.iload 5, 2) := by decide +kernel
theorem dd_X11_sail_157 : decode Y_X11_sail.2.1 157 = .ok (.invokevirtual 356, 3) := by decide +kernel
theorem dd_X11_sail_160 : decode Y_X11_sail.2.1 160 = .ok (.ifCond .ne 6, 3) := by decide +kernel
theorem dd_X11_sail_163 : decode Y_X11_sail.2.1 163 = .ok (.iload 6, 2) := by decide +kernel
theorem dd_X11_sail_165 : decode Y_X11_sail.2.1 165 = .ok (.ireturn, 1) := by decide +kernel
theorem dd_X11_sail_166 : decode Y_X11_sail.2.1 166 = .ok (.iload 6, 2) := by decide +kernel
theorem dd_X11_sail_168 : decode Y_X11_sail.2.1 168 = .ok (.ifCond .le 11, 3) := by decide +kernel
theorem dd_X11_sail_171 : decode Y_X11_sail.2.1 171 = .ok (.aload_n 0, 1) := by decide +kernel
theorem dd_X11_sail_172 : decode Y_X11_sail.2.1 172 = .ok (.getfield 44, 3) := by decide +kernel
theorem dd_X11_sail_175 : decode Y_X11_sail.2.1 175 = .ok (.invokevirtual 226, 3) := by decide +kernel
theorem dd_X11_sail_178 : decode Y_X11_sail.2.1 178 = .ok (.pop, 1) := by decide +kernel
theorem dd_X11_sail_179 : decode Y_X11_sail.2.1 179 = .ok (.iinc 6 1, 3) := by decide +kernel
theorem dd_X11_sail_182 : decode Y_X11_sail.2.1 182 = .ok (.goto (-173), 3) := by decide +kernel
theorem dd_X11_sail_185 : decode Y_X11_sail.2.1 185 = .ok (.iconst (-1), 1) := by decide +kernel
theorem dd_X11_sail_186 : decode Y_X11_sail.2.1 186 = .ok (.ireturn, 1) := by decide +kernel
def F_X11_sail_L9 (x0 : Nat) (x3 : Int32) (K185 : zM → zO) : Nat → Int32 → Int32 → Int32 → zM → zO
  | 0, _, _, _, _ => none
  | n + 1, x4, x5, x6, M => zit (100 < x6) (K185 M) (zck (zin x3 8) (zlt (M (zgr (zgr x0 5) 1) (zix x3)) (fun v1 => zjo (fun (w3 : Int32) (w4 : Int32) (M3 : zM) => zbI (F_X6_farFrom (zgr x0 1) v1 w3 w4 M3) (fun r1 M4 => zit (r1 = 0) (zI x6 M4) (zjo (fun  (M6 : zM) => F_X11_sail_L9 x0 x3 K185 n w3 w4 (x6 + 1) M6) (fun (k4 : zM → zO) => zit (x6 ≤ 0) (k4 M4) (zbI (F_X10_passYear (zgr x0 5) M4) (fun r2 M5 => k4 M5)))))) (fun (k1 : Int32 → Int32 → zM → zO) => zit (x6 ≤ 0) (k1 x4 x5 M) (zck (zin v1 8) (zlt (if (if 0 ≤ ((M (zgr (zgr x0 1) 6) (zix v1)) - x4) then (M (zgr (zgr x0 1) 6) (zix v1)) - x4 else 0 - ((M (zgr (zgr x0 1) 6) (zix v1)) - x4)) < (M (zgr x0 1) 2) then (if 0 ≤ ((M (zgr (zgr x0 1) 6) (zix v1)) - x4) then (M (zgr (zgr x0 1) 6) (zix v1)) - x4 else 0 - ((M (zgr (zgr x0 1) 6) (zix v1)) - x4)) else M (zgr x0 1) 2) (fun v2 => zck (zin v1 8) (zlt (if (if 0 ≤ ((M (zgr (zgr x0 1) 7) (zix v1)) - x5) then (M (zgr (zgr x0 1) 7) (zix v1)) - x5 else 0 - ((M (zgr (zgr x0 1) 7) (zix v1)) - x5)) < ((M (zgr x0 1) 2) - v2) then (if 0 ≤ ((M (zgr (zgr x0 1) 7) (zix v1)) - x5) then (M (zgr (zgr x0 1) 7) (zix v1)) - x5 else 0 - ((M (zgr (zgr x0 1) 7) (zix v1)) - x5)) else (M (zgr x0 1) 2) - v2) (fun v3 => zck (zin v1 8) (zjo (fun (w1 : Int32) (M1 : zM) => zlt (x4 + w1) (fun v4 => zck (zin v1 8) (zjo (fun (w2 : Int32) (M2 : zM) => zlt (x5 + w2) (fun v5 => k1 v4 v5 M2)) (fun (k3 : Int32 → zM → zO) => zit (x5 ≤ (M1 (zgr (zgr x0 1) 7) (zix v1))) (k3 v3 M1) (k3 (-v3) M1))))) (fun (k2 : Int32 → zM → zO) => zit (x4 ≤ (M (zgr (zgr x0 1) 6) (zix v1))) (k2 v2 M) (k2 (-v2) M))))))))))))
def F_X11_sail (t : Nat) (a1 : Int32) (a2 : Int32) (a3 : Int32) (M : zM) : zO := F_X11_sail_L9 t a3 (fun  (M7 : zM) => zI (-1) M7) zN a1 a2 0 M
set_option maxHeartbeats 1000000 in
set_option maxRecDepth 20000 in
theorem ct_X11_sail_L9 (l : Launch) (hl : l.stackTraces = false) (G : zG) (x0 : Nat) (hx0 : zsh x0 = 11) (x3 : Int32) (K185 : zM → zO) (hK185 : ∀  (M : zM), zEv l G Y_X11_sail 13 0 185 [] [] M (K185 M)) : ∀ (n : Nat) (x4 : Int32) (x5 : Int32) (x6 : Int32) (M : zM), zEv l G Y_X11_sail 13 0 9 [(0, .ref (G.2.1 + x0)), (3, .int x3), (4, .int x4), (5, .int x5), (6, .int x6)] [] M (F_X11_sail_L9 x0 x3 K185 n x4 x5 x6 M) := by
  intro n
  induction n with
  | zero => intro x4 x5 x6 M; exact ev_none
  | succ n ih =>
    intro x4 x5 x6 M
    show zEv l G Y_X11_sail 13 0 9 [(0, .ref (G.2.1 + x0)), (3, .int x3), (4, .int x4), (5, .int x5), (6, .int x6)] [] M (zit (100 < x6) (K185 M) (zck (zin x3 8) (zlt (M (zgr (zgr x0 5) 1) (zix x3)) (fun v1 => zjo (fun (w3 : Int32) (w4 : Int32) (M3 : zM) => zbI (F_X6_farFrom (zgr x0 1) v1 w3 w4 M3) (fun r1 M4 => zit (r1 = 0) (zI x6 M4) (zjo (fun  (M6 : zM) => F_X11_sail_L9 x0 x3 K185 n w3 w4 (x6 + 1) M6) (fun (k4 : zM → zO) => zit (x6 ≤ 0) (k4 M4) (zbI (F_X10_passYear (zgr x0 5) M4) (fun r2 M5 => k4 M5)))))) (fun (k1 : Int32 → Int32 → zM → zO) => zit (x6 ≤ 0) (k1 x4 x5 M) (zck (zin v1 8) (zlt (if (if 0 ≤ ((M (zgr (zgr x0 1) 6) (zix v1)) - x4) then (M (zgr (zgr x0 1) 6) (zix v1)) - x4 else 0 - ((M (zgr (zgr x0 1) 6) (zix v1)) - x4)) < (M (zgr x0 1) 2) then (if 0 ≤ ((M (zgr (zgr x0 1) 6) (zix v1)) - x4) then (M (zgr (zgr x0 1) 6) (zix v1)) - x4 else 0 - ((M (zgr (zgr x0 1) 6) (zix v1)) - x4)) else M (zgr x0 1) 2) (fun v2 => zck (zin v1 8) (zlt (if (if 0 ≤ ((M (zgr (zgr x0 1) 7) (zix v1)) - x5) then (M (zgr (zgr x0 1) 7) (zix v1)) - x5 else 0 - ((M (zgr (zgr x0 1) 7) (zix v1)) - x5)) < ((M (zgr x0 1) 2) - v2) then (if 0 ≤ ((M (zgr (zgr x0 1) 7) (zix v1)) - x5) then (M (zgr (zgr x0 1) 7) (zix v1)) - x5 else 0 - ((M (zgr (zgr x0 1) 7) (zix v1)) - x5)) else (M (zgr x0 1) 2) - v2) (fun v3 => zck (zin v1 8) (zjo (fun (w1 : Int32) (M1 : zM) => zlt (x4 + w1) (fun v4 => zck (zin v1 8) (zjo (fun (w2 : Int32) (M2 : zM) => zlt (x5 + w2) (fun v5 => k1 v4 v5 M2)) (fun (k3 : Int32 → zM → zO) => zit (x5 ≤ (M1 (zgr (zgr x0 1) 7) (zix v1))) (k3 v3 M1) (k3 (-v3) M1))))) (fun (k2 : Int32 → zM → zO) => zit (x4 ≤ (M (zgr (zgr x0 1) 6) (zix v1))) (k2 v2 M) (k2 (-v2) M)))))))))))))
    refine ev_iload dd_X11_sail_9 4 rfl ?_
    refine ev_bipush (v := 100) dd_X11_sail_11 (by decide) ?_
    refine ev_icmp_gt 185 dd_X11_sail_13 (by decide) ?_ ?_
    · refine ev_lv (lv' := []) [] rfl ?_
      exact hK185 _
    · refine ev_aload_n dd_X11_sail_16 0 rfl ?_
      refine ev_getR gf_RX11_44 dd_X11_sail_17 hx0 (by decide) ?_
      refine ev_getR gf_RX11_206 dd_X11_sail_20 (zg_11_5 hx0) (by decide) ?_
      refine ev_iload_n dd_X11_sail_23 1 rfl ?_
      refine ev_iald dd_X11_sail_24 ((zg_10_1 (zg_11_5 hx0)).1) ((zg_10_1 (zg_11_5 hx0)).2) ?_
      refine ev_topi (fun v1 => ?_)
      refine ev_istore (i := 7) (lv' := [(0, .ref (G.2.1 + x0)), (3, .int x3), (4, .int x4), (5, .int x5), (6, .int x6), (7, .int v1)]) [1, 2, 3, 4, 5, 0] dd_X11_sail_25 (by decide) rfl ?_
      refine ev_iload dd_X11_sail_27 4 rfl ?_
      refine ev_jo (fun (k1 : Int32 → Int32 → zM → zO) => ∀ (w3 : Int32) (w4 : Int32) (M3 : zM), zEv l G Y_X11_sail 13 0 147 [(0, .ref (G.2.1 + x0)), (3, .int x3), (4, .int w3), (5, .int w4), (6, .int x6), (7, .int v1)] [] M3 (k1 w3 w4 M3)) ?_ (fun k1 hk1 => ?_)
      · intro w3 w4 M3
        refine ev_aload_n dd_X11_sail_147 0 rfl ?_
        refine ev_getR gf_RX11_19 dd_X11_sail_148 hx0 (by decide) ?_
        refine ev_iload dd_X11_sail_151 5 rfl ?_
        refine ev_lv (lv' := [(0, .ref (G.2.1 + x0)), (3, .int x3), (4, .int w3), (5, .int w4), (6, .int x6)]) [0, 1, 2, 3, 4] rfl ?_
        refine ev_iload dd_X11_sail_153 2 rfl ?_
        refine ev_iload dd_X11_sail_155 3 rfl ?_
        refine ev_callVI (As := [.int v1, .int w3, .int w4]) cl_RX11_356 (ct_X6_farFrom l hl G (zgr x0 1) (zg_11_1 hx0) v1 w3 w4 M3) dd_X11_sail_157 (zg_11_1 hx0) (by decide) (Nat.le_of_ble_eq_true rfl) (Nat.le_of_ble_eq_true rfl) rfl rfl (fun r1 M4 => ?_)
        refine ev_if_ne 166 dd_X11_sail_160 (by decide) ?_ ?_
        · refine ev_iload dd_X11_sail_166 4 rfl ?_
          refine ev_jo (fun (k4 : zM → zO) => ∀  (M6 : zM), zEv l G Y_X11_sail 13 0 179 [(0, .ref (G.2.1 + x0)), (3, .int x3), (4, .int w3), (5, .int w4), (6, .int x6)] [] M6 (k4 M6)) ?_ (fun k4 hk4 => ?_)
          · intro M6
            refine ev_iinc (j := 4) (v := 1) (lv' := [(0, .ref (G.2.1 + x0)), (3, .int x3), (4, .int w3), (5, .int w4), (6, .int (x6 + 1))]) [1, 2, 3, 4, 0] dd_X11_sail_179 rfl (by decide) (by decide) rfl ?_
            refine ev_goto 9 dd_X11_sail_182 (by decide) ?_
            exact ih _ _ _ _
          · refine ev_if_le 179 dd_X11_sail_168 (by decide) ?_ ?_
            · exact hk4 _
            · refine ev_aload_n dd_X11_sail_171 0 rfl ?_
              refine ev_getR gf_RX11_44 dd_X11_sail_172 hx0 (by decide) ?_
              refine ev_callVI (As := []) cl_RX11_226 (ct_X10_passYear l hl G (zgr x0 5) (zg_11_5 hx0) M4) dd_X11_sail_175 (zg_11_5 hx0) (by decide) (Nat.le_of_ble_eq_true rfl) (Nat.le_of_ble_eq_true rfl) rfl rfl (fun r2 M5 => ?_)
              refine ev_pop dd_X11_sail_178 rfl ?_
              exact hk4 _
        · refine ev_lv (lv' := [(6, .int x6)]) [4] rfl ?_
          refine ev_iload dd_X11_sail_163 0 rfl ?_
          refine ev_lv (lv' := []) [] rfl ?_
          exact ev_iret dd_X11_sail_165 rfl (Nat.le_of_ble_eq_true rfl) rfl
      · refine ev_if_le 147 dd_X11_sail_29 (by decide) ?_ ?_
        · exact hk1 _ _ _
        · refine ev_aload_n dd_X11_sail_32 0 rfl ?_
          refine ev_getR gf_RX11_19 dd_X11_sail_33 hx0 (by decide) ?_
          refine ev_getI gf_RX11_148 dd_X11_sail_36 (zg_11_1 hx0) (by decide) ?_
          refine ev_aload_n dd_X11_sail_39 0 rfl ?_
          refine ev_getR gf_RX11_19 dd_X11_sail_40 hx0 (by decide) ?_
          refine ev_getR gf_RX11_181 dd_X11_sail_43 (zg_11_1 hx0) (by decide) ?_
          refine ev_iload dd_X11_sail_46 5 rfl ?_
          refine ev_iald dd_X11_sail_48 ((zg_6_6 (zg_11_1 hx0)).1) ((zg_6_6 (zg_11_1 hx0)).2) ?_
          refine ev_iload dd_X11_sail_49 2 rfl ?_
          refine ev_isub dd_X11_sail_51 ?_
          refine ev_mabs mw_RX11_379 dd_X11_sail_52 (Nat.le_of_ble_eq_true rfl) (Nat.le_of_ble_eq_true rfl) ?_
          refine ev_mmin mw_RX11_384 dd_X11_sail_55 (Nat.le_of_ble_eq_true rfl) (Nat.le_of_ble_eq_true rfl) ?_
          refine ev_topi (fun v2 => ?_)
          refine ev_istore (i := 8) (lv' := [(0, .ref (G.2.1 + x0)), (3, .int x3), (4, .int x4), (5, .int x5), (6, .int x6), (7, .int v1), (8, .int v2)]) [1, 2, 3, 4, 5, 6, 0] dd_X11_sail_58 (by decide) rfl ?_
          refine ev_aload_n dd_X11_sail_60 0 rfl ?_
          refine ev_getR gf_RX11_19 dd_X11_sail_61 hx0 (by decide) ?_
          refine ev_getI gf_RX11_148 dd_X11_sail_64 (zg_11_1 hx0) (by decide) ?_
          refine ev_iload dd_X11_sail_67 6 rfl ?_
          refine ev_isub dd_X11_sail_69 ?_
          refine ev_aload_n dd_X11_sail_70 0 rfl ?_
          refine ev_getR gf_RX11_19 dd_X11_sail_71 hx0 (by decide) ?_
          refine ev_getR gf_RX11_184 dd_X11_sail_74 (zg_11_1 hx0) (by decide) ?_
          refine ev_iload dd_X11_sail_77 5 rfl ?_
          refine ev_iald dd_X11_sail_79 ((zg_6_7 (zg_11_1 hx0)).1) ((zg_6_7 (zg_11_1 hx0)).2) ?_
          refine ev_iload dd_X11_sail_80 3 rfl ?_
          refine ev_isub dd_X11_sail_82 ?_
          refine ev_mabs mw_RX11_379 dd_X11_sail_83 (Nat.le_of_ble_eq_true rfl) (Nat.le_of_ble_eq_true rfl) ?_
          refine ev_mmin mw_RX11_384 dd_X11_sail_86 (Nat.le_of_ble_eq_true rfl) (Nat.le_of_ble_eq_true rfl) ?_
          refine ev_topi (fun v3 => ?_)
          refine ev_istore (i := 9) (lv' := [(0, .ref (G.2.1 + x0)), (3, .int x3), (4, .int x4), (5, .int x5), (6, .int x6), (7, .int v1), (8, .int v2), (9, .int v3)]) [1, 2, 3, 4, 5, 6, 7, 0] dd_X11_sail_89 (by decide) rfl ?_
          refine ev_iload dd_X11_sail_91 2 rfl ?_
          refine ev_aload_n dd_X11_sail_93 0 rfl ?_
          refine ev_getR gf_RX11_19 dd_X11_sail_94 hx0 (by decide) ?_
          refine ev_getR gf_RX11_181 dd_X11_sail_97 (zg_11_1 hx0) (by decide) ?_
          refine ev_iload dd_X11_sail_100 5 rfl ?_
          refine ev_iald dd_X11_sail_102 ((zg_6_6 (zg_11_1 hx0)).1) ((zg_6_6 (zg_11_1 hx0)).2) ?_
          refine ev_iload dd_X11_sail_103 2 rfl ?_
          refine ev_lv (lv' := [(0, .ref (G.2.1 + x0)), (3, .int x3), (5, .int x5), (6, .int x6), (7, .int v1), (8, .int v2), (9, .int v3)]) [0, 1, 3, 4, 5, 6, 7] rfl ?_
          refine ev_jo (fun (k2 : Int32 → zM → zO) => ∀ (w1 : Int32) (M1 : zM), zEv l G Y_X11_sail 13 0 116 [(0, .ref (G.2.1 + x0)), (3, .int x3), (5, .int x5), (6, .int x6), (7, .int v1), (9, .int v3)] [.int w1, .int x4] M1 (k2 w1 M1)) ?_ (fun k2 hk2 => ?_)
          · intro w1 M1
            refine ev_iadd dd_X11_sail_116 ?_
            refine ev_topi (fun v4 => ?_)
            refine ev_istore (i := 4) (lv' := [(0, .ref (G.2.1 + x0)), (3, .int x3), (4, .int v4), (5, .int x5), (6, .int x6), (7, .int v1), (9, .int v3)]) [1, 2, 0, 3, 4, 5, 6] dd_X11_sail_117 (by decide) rfl ?_
            refine ev_iload dd_X11_sail_119 3 rfl ?_
            refine ev_aload_n dd_X11_sail_121 0 rfl ?_
            refine ev_getR gf_RX11_19 dd_X11_sail_122 hx0 (by decide) ?_
            refine ev_getR gf_RX11_184 dd_X11_sail_125 (zg_11_1 hx0) (by decide) ?_
            refine ev_iload dd_X11_sail_128 5 rfl ?_
            refine ev_iald dd_X11_sail_130 ((zg_6_7 (zg_11_1 hx0)).1) ((zg_6_7 (zg_11_1 hx0)).2) ?_
            refine ev_iload dd_X11_sail_131 3 rfl ?_
            refine ev_lv (lv' := [(0, .ref (G.2.1 + x0)), (3, .int x3), (4, .int v4), (6, .int x6), (7, .int v1), (9, .int v3)]) [0, 1, 2, 4, 5, 6] rfl ?_
            refine ev_jo (fun (k3 : Int32 → zM → zO) => ∀ (w2 : Int32) (M2 : zM), zEv l G Y_X11_sail 13 0 144 [(0, .ref (G.2.1 + x0)), (3, .int x3), (4, .int v4), (6, .int x6), (7, .int v1)] [.int w2, .int x5] M2 (k3 w2 M2)) ?_ (fun k3 hk3 => ?_)
            · intro w2 M2
              refine ev_iadd dd_X11_sail_144 ?_
              refine ev_topi (fun v5 => ?_)
              refine ev_istore (i := 5) (lv' := [(0, .ref (G.2.1 + x0)), (3, .int x3), (4, .int v4), (5, .int v5), (6, .int x6), (7, .int v1)]) [1, 2, 3, 0, 4, 5] dd_X11_sail_145 (by decide) rfl ?_
              exact hk1 _ _ _
            · refine ev_icmp_ge 142 dd_X11_sail_133 (by decide) ?_ ?_
              · refine ev_iload dd_X11_sail_142 5 rfl ?_
                refine ev_lv (lv' := [(0, .ref (G.2.1 + x0)), (3, .int x3), (4, .int v4), (6, .int x6), (7, .int v1)]) [0, 1, 2, 3, 4] rfl ?_
                exact hk3 _ _
              · refine ev_iload dd_X11_sail_136 5 rfl ?_
                refine ev_lv (lv' := [(0, .ref (G.2.1 + x0)), (3, .int x3), (4, .int v4), (6, .int x6), (7, .int v1)]) [0, 1, 2, 3, 4] rfl ?_
                refine ev_ineg dd_X11_sail_138 ?_
                refine ev_goto 144 dd_X11_sail_139 (by decide) ?_
                exact hk3 _ _
          · refine ev_icmp_ge 114 dd_X11_sail_105 (by decide) ?_ ?_
            · refine ev_iload dd_X11_sail_114 5 rfl ?_
              refine ev_lv (lv' := [(0, .ref (G.2.1 + x0)), (3, .int x3), (5, .int x5), (6, .int x6), (7, .int v1), (9, .int v3)]) [0, 1, 2, 3, 4, 6] rfl ?_
              exact hk2 _ _
            · refine ev_iload dd_X11_sail_108 5 rfl ?_
              refine ev_lv (lv' := [(0, .ref (G.2.1 + x0)), (3, .int x3), (5, .int x5), (6, .int x6), (7, .int v1), (9, .int v3)]) [0, 1, 2, 3, 4, 6] rfl ?_
              refine ev_ineg dd_X11_sail_110 ?_
              refine ev_goto 116 dd_X11_sail_111 (by decide) ?_
              exact hk2 _ _
set_option maxHeartbeats 1000000 in
set_option maxRecDepth 20000 in
theorem ct_X11_sail (l : Launch) (hl : l.stackTraces = false) (G : zG) (t : Nat) (ht : zsh t = 11) (a1 : Int32) (a2 : Int32) (a3 : Int32) (M : zM) : zMt l G Y_X11_sail 13 [.ref (G.2.1 + t), .int a1, .int a2, .int a3] M (F_X11_sail t a1 a2 a3 M) := by
  refine zMt_of (by decide +kernel) (Nat.le_of_ble_eq_true rfl) ?_
  show zEv l G Y_X11_sail 13 0 0 [(0, .ref (G.2.1 + t)), (1, .int a1), (2, .int a2), (3, .int a3)] [] M (F_X11_sail_L9 t a3 (fun  (M7 : zM) => zI (-1) M7) zN a1 a2 0 M)
  refine ev_iload_n dd_X11_sail_0 1 rfl ?_
  refine ev_lv (lv' := [(0, .ref (G.2.1 + t)), (2, .int a2), (3, .int a3)]) [0, 2, 3] rfl ?_
  refine ev_istore (i := 4) (lv' := [(0, .ref (G.2.1 + t)), (2, .int a2), (3, .int a3), (4, .int a1)]) [1, 2, 3, 0] dd_X11_sail_1 (by decide) rfl ?_
  refine ev_iload_n dd_X11_sail_3 1 rfl ?_
  refine ev_lv (lv' := [(0, .ref (G.2.1 + t)), (3, .int a3), (4, .int a1)]) [0, 2, 3] rfl ?_
  refine ev_istore (i := 5) (lv' := [(0, .ref (G.2.1 + t)), (3, .int a3), (4, .int a1), (5, .int a2)]) [1, 2, 3, 0] dd_X11_sail_4 (by decide) rfl ?_
  refine ev_iconst (v := 0) dd_X11_sail_6 (by decide) ?_
  refine ev_istore (i := 6) (lv' := [(0, .ref (G.2.1 + t)), (3, .int a3), (4, .int a1), (5, .int a2), (6, .int 0)]) [1, 2, 3, 4, 0] dd_X11_sail_7 (by decide) rfl ?_
  refine ct_X11_sail_L9 l hl G t ht a3 _ (fun M7 => ?_) zN _ _ _ _
  refine ev_iconst (v := (-1)) dd_X11_sail_185 (by decide) ?_
  exact ev_iret dd_X11_sail_186 rfl (Nat.le_of_ble_eq_true rfl) rfl
/-! X5_ofFirst -/
theorem dd_X5_ofFirst_0 : decode Y_X5_ofFirst.2.1 0 = .ok (.aload_n 0, 1) := by decide +kernel
theorem dd_X5_ofFirst_1 : decode Y_X5_ofFirst.2.1 1 = .ok (.getfield 24, 3) := by decide +kernel
theorem dd_X5_ofFirst_4 : decode Y_X5_ofFirst.2.1 4 = .ok (.ifCond .le 24, 3) := by decide +kernel
theorem dd_X5_ofFirst_7 : decode Y_X5_ofFirst.2.1 7 = .ok (.iload_n 1, 1) := by decide +kernel
theorem dd_X5_ofFirst_8 : decode Y_X5_ofFirst.2.1 8 = .ok (.ifCond .lt 20, 3) := by decide +kernel
theorem dd_X5_ofFirst_11 : decode Y_X5_ofFirst.2.1 11 = .ok (.iload_n 1, 1) := by decide +kernel
theorem dd_X5_ofFirst_12 : decode Y_X5_ofFirst.2.1 12 = .ok (.aload_n 0, 1) := by decide +kernel
theorem dd_X5_ofFirst_13 : decode Y_X5_ofFirst.2.1 13 = .ok (.getfield 28, 3) := by decide +kernel
theorem dd_X5_ofFirst_16 : decode Y_X5_ofFirst.2.1 16 = .ok (.if_icmp .ge 12, 3) := by decide +kernel
theorem dd_X5_ofFirst_19 : decode Y_X5_ofFirst.2.1 19 = .ok (.aload_n 0, 1) := by decide +kernel
theorem dd_X5_ofFirst_20 : decode Y_X5_ofFirst.2.1 20 = .ok (.getfield 18, 3) := by decide +kernel
theorem dd_X5_ofFirst_23 : decode Y_X5_ofFirst.2.1 23 = .ok (.iload_n 1, 1) := by decide +kernel
theorem dd_X5_ofFirst_24 : decode Y_X5_ofFirst.2.1 24 = .ok (.iaload, 1) := by decide +kernel
theorem dd_X5_ofFirst_25 : decode Y_X5_ofFirst.2.1 25 = .ok (.goto 4, 3) := by decide +kernel
theorem dd_X5_ofFirst_28 : decode Y_X5_ofFirst.2.1 28 = .ok (.iconst (-1), 1) := by decide +kernel
theorem dd_X5_ofFirst_29 : decode Y_X5_ofFirst.2.1 29 = .ok (.ireturn, 1) := by decide +kernel
def F_X5_ofFirst (t : Nat) (a1 : Int32) (M : zM) : zO := zjo (fun (w1 : Int32) (M2 : zM) => zI w1 M2) (fun (k1 : Int32 → zM → zO) => zjo (fun  (M1 : zM) => k1 (-1) M1) (fun (k2 : zM → zO) => zit ((M t 7) ≤ 0) (k2 M) (zit (a1 < 0) (k2 M) (zit ((M t 8) ≤ a1) (k2 M) (zck (zin a1 3) (k1 (M (zgr t 5) (zix a1)) M))))))
set_option maxHeartbeats 1000000 in
set_option maxRecDepth 20000 in
theorem ct_X5_ofFirst (l : Launch) (hl : l.stackTraces = false) (G : zG) (t : Nat) (ht : zsh t = 5) (a1 : Int32) (M : zM) : zMt l G Y_X5_ofFirst 1 [.ref (G.2.1 + t), .int a1] M (F_X5_ofFirst t a1 M) := by
  refine zMt_of (by decide +kernel) (Nat.le_of_ble_eq_true rfl) ?_
  show zEv l G Y_X5_ofFirst 1 0 0 [(0, .ref (G.2.1 + t)), (1, .int a1)] [] M (zjo (fun (w1 : Int32) (M2 : zM) => zI w1 M2) (fun (k1 : Int32 → zM → zO) => zjo (fun  (M1 : zM) => k1 (-1) M1) (fun (k2 : zM → zO) => zit ((M t 7) ≤ 0) (k2 M) (zit (a1 < 0) (k2 M) (zit ((M t 8) ≤ a1) (k2 M) (zck (zin a1 3) (k1 (M (zgr t 5) (zix a1)) M)))))))
  refine ev_aload_n dd_X5_ofFirst_0 0 rfl ?_
  refine ev_getI gf_RX5_24 dd_X5_ofFirst_1 ht (by decide) ?_
  refine ev_jo (fun (k1 : Int32 → zM → zO) => ∀ (w1 : Int32) (M2 : zM), zEv l G Y_X5_ofFirst 1 0 29 [] [.int w1] M2 (k1 w1 M2)) ?_ (fun k1 hk1 => ?_)
  · intro w1 M2
    exact ev_iret dd_X5_ofFirst_29 rfl (Nat.le_of_ble_eq_true rfl) rfl
  · refine ev_jo (fun (k2 : zM → zO) => ∀  (M1 : zM), zEv l G Y_X5_ofFirst 1 0 28 [] [] M1 (k2 M1)) ?_ (fun k2 hk2 => ?_)
    · intro M1
      refine ev_iconst (v := (-1)) dd_X5_ofFirst_28 (by decide) ?_
      exact hk1 _ _
    · refine ev_if_le 28 dd_X5_ofFirst_4 (by decide) ?_ ?_
      · refine ev_lv (lv' := []) [] rfl ?_
        exact hk2 _
      · refine ev_iload_n dd_X5_ofFirst_7 1 rfl ?_
        refine ev_if_lt 28 dd_X5_ofFirst_8 (by decide) ?_ ?_
        · refine ev_lv (lv' := []) [] rfl ?_
          exact hk2 _
        · refine ev_iload_n dd_X5_ofFirst_11 1 rfl ?_
          refine ev_aload_n dd_X5_ofFirst_12 0 rfl ?_
          refine ev_getI gf_RX5_28 dd_X5_ofFirst_13 ht (by decide) ?_
          refine ev_icmp_ge 28 dd_X5_ofFirst_16 (by decide) ?_ ?_
          · refine ev_lv (lv' := []) [] rfl ?_
            exact hk2 _
          · refine ev_aload_n dd_X5_ofFirst_19 0 rfl ?_
            refine ev_lv (lv' := [(1, .int a1)]) [1] rfl ?_
            refine ev_getR gf_RX5_18 dd_X5_ofFirst_20 ht (by decide) ?_
            refine ev_iload_n dd_X5_ofFirst_23 0 rfl ?_
            refine ev_lv (lv' := []) [] rfl ?_
            refine ev_iald dd_X5_ofFirst_24 ((zg_5_5 ht).1) ((zg_5_5 ht).2) ?_
            refine ev_goto 29 dd_X5_ofFirst_25 (by decide) ?_
            exact hk1 _ _
/-! X11_sales -/
theorem dd_X11_sales_0 : decode Y_X11_sales.2.1 0 = .ok (.iload_n 2, 1) := by decide +kernel
theorem dd_X11_sales_1 : decode Y_X11_sales.2.1 1 = .ok (.invokestatic 311, 3) := by decide +kernel
theorem dd_X11_sales_4 : decode Y_X11_sales.2.1 4 = .ok (.iload_n 1, 1) := by decide +kernel
theorem dd_X11_sales_5 : decode Y_X11_sales.2.1 5 = .ok (.iconst 3, 1) := by decide +kernel
theorem dd_X11_sales_6 : decode Y_X11_sales.2.1 6 = .ok (.invokestatic 323, 3) := by decide +kernel
theorem dd_X11_sales_9 : decode Y_X11_sales.2.1 9 = .ok (.aload_n 0, 1) := by decide +kernel
theorem dd_X11_sales_10 : decode Y_X11_sales.2.1 10 = .ok (.getfield 92, 3) := by decide +kernel
theorem dd_X11_sales_13 : decode Y_X11_sales.2.1 13 = .ok (.iload_n 1, 1) := by decide +kernel
theorem dd_X11_sales_14 : decode Y_X11_sales.2.1 14 = .ok (.iconst 0, 1) := by decide +kernel
theorem dd_X11_sales_15 : decode Y_X11_sales.2.1 15 = .ok (.aload_n 0, 1) := by decide +kernel
theorem dd_X11_sales_16 : decode Y_X11_sales.2.1 16 = .ok (.getfield 104, 3) := by decide +kernel
theorem dd_X11_sales_19 : decode Y_X11_sales.2.1 19 = .ok (.invokevirtual 338, 3) := by decide +kernel
theorem dd_X11_sales_22 : decode Y_X11_sales.2.1 22 = .ok (.iload_n 2, 1) := by decide +kernel
theorem dd_X11_sales_23 : decode Y_X11_sales.2.1 23 = .ok (.iconst (-1), 1) := by decide +kernel
theorem dd_X11_sales_24 : decode Y_X11_sales.2.1 24 = .ok (.if_icmp .ne 13, 3) := by decide +kernel
theorem dd_X11_sales_27 : decode Y_X11_sales.2.1 27 = .ok (.aload_n 0, 1) := by decide +kernel
theorem dd_X11_sales_28 : decode Y_X11_sales.2.1 28 = .ok (.getfield 92, 3) := by decide +kernel
theorem dd_X11_sales_31 : decode Y_X11_sales.2.1 31 = .ok (.getfield 341, 3) := by decide +kernel
theorem dd_X11_sales_34 : decode Y_X11_sales.2.1 34 = .ok (.goto 11, 3) := by decide +kernel
theorem dd_X11_sales_37 : decode Y_X11_sales.2.1 37 = .ok (.aload_n 0, 1) := by decide +kernel
theorem dd_X11_sales_38 : decode Y_X11_sales.2.1 38 = .ok (.getfield 92, 3) := by decide +kernel
theorem dd_X11_sales_41 : decode Y_X11_sales.2.1 41 = .ok (.iload_n 2, 1) := by decide +kernel
theorem dd_X11_sales_42 : decode Y_X11_sales.2.1 42 = .ok (.invokevirtual 344, 3) := by decide +kernel
theorem dd_X11_sales_45 : decode Y_X11_sales.2.1 45 = .ok (.ireturn, 1) := by decide +kernel
def F_X11_sales (t : Nat) (a1 : Int32) (a2 : Int32) (M : zM) : zO := zbV (F_X11_needNoneOrMore a2 M) (fun M1 => zbV (F_X11_needAmount a1 3 M1) (fun M2 => zbV (F_X5_find (zgr t 12) a1 0 (M2 t 15) M2) (fun M3 => zjo (fun (w1 : Int32) (M5 : zM) => zI w1 M5) (fun (k1 : Int32 → zM → zO) => zit (a2 = (-1)) (k1 (M3 (zgr t 12) 7) M3) (zbI (F_X5_ofFirst (zgr t 12) a2 M3) (fun r1 M4 => k1 r1 M4))))))
set_option maxHeartbeats 1000000 in
set_option maxRecDepth 20000 in
theorem ct_X11_sales (l : Launch) (hl : l.stackTraces = false) (G : zG) (t : Nat) (ht : zsh t = 11) (a1 : Int32) (a2 : Int32) (M : zM) : zMt l G Y_X11_sales 110 [.ref (G.2.1 + t), .int a1, .int a2] M (F_X11_sales t a1 a2 M) := by
  refine zMt_of (by decide +kernel) (Nat.le_of_ble_eq_true rfl) ?_
  show zEv l G Y_X11_sales 110 0 0 [(0, .ref (G.2.1 + t)), (1, .int a1), (2, .int a2)] [] M (zbV (F_X11_needNoneOrMore a2 M) (fun M1 => zbV (F_X11_needAmount a1 3 M1) (fun M2 => zbV (F_X5_find (zgr t 12) a1 0 (M2 t 15) M2) (fun M3 => zjo (fun (w1 : Int32) (M5 : zM) => zI w1 M5) (fun (k1 : Int32 → zM → zO) => zit (a2 = (-1)) (k1 (M3 (zgr t 12) 7) M3) (zbI (F_X5_ofFirst (zgr t 12) a2 M3) (fun r1 M4 => k1 r1 M4)))))))
  refine ev_iload_n dd_X11_sales_0 2 rfl ?_
  refine ev_callSV (As := [.int a2]) cl_RX11_311 (ct_X11_needNoneOrMore l hl G a2 M) dd_X11_sales_1 (by decide) (Nat.le_of_ble_eq_true rfl) (Nat.le_of_ble_eq_true rfl) rfl rfl (fun M1 => ?_)
  refine ev_iload_n dd_X11_sales_4 1 rfl ?_
  refine ev_iconst (v := 3) dd_X11_sales_5 (by decide) ?_
  refine ev_callSV (As := [.int a1, .int 3]) cl_RX11_323 (ct_X11_needAmount l hl G a1 3 M1) dd_X11_sales_6 (by decide) (Nat.le_of_ble_eq_true rfl) (Nat.le_of_ble_eq_true rfl) rfl rfl (fun M2 => ?_)
  refine ev_aload_n dd_X11_sales_9 0 rfl ?_
  refine ev_getR gf_RX11_92 dd_X11_sales_10 ht (by decide) ?_
  refine ev_iload_n dd_X11_sales_13 1 rfl ?_
  refine ev_lv (lv' := [(0, .ref (G.2.1 + t)), (2, .int a2)]) [0, 2] rfl ?_
  refine ev_iconst (v := 0) dd_X11_sales_14 (by decide) ?_
  refine ev_aload_n dd_X11_sales_15 0 rfl ?_
  refine ev_getI gf_RX11_104 dd_X11_sales_16 ht (by decide) ?_
  refine ev_callVV (As := [.int a1, .int 0, .int (M2 t 15)]) cl_RX11_338 (ct_X5_find l hl G (zgr t 12) (zg_11_12 ht) a1 0 (M2 t 15) M2) dd_X11_sales_19 (zg_11_12 ht) (by decide) (Nat.le_of_ble_eq_true rfl) (Nat.le_of_ble_eq_true rfl) rfl rfl (fun M3 => ?_)
  refine ev_iload_n dd_X11_sales_22 1 rfl ?_
  refine ev_iconst (v := (-1)) dd_X11_sales_23 (by decide) ?_
  refine ev_jo (fun (k1 : Int32 → zM → zO) => ∀ (w1 : Int32) (M5 : zM), zEv l G Y_X11_sales 110 2 45 [] [.int w1] M5 (k1 w1 M5)) ?_ (fun k1 hk1 => ?_)
  · intro w1 M5
    exact ev_iret dd_X11_sales_45 rfl (Nat.le_of_ble_eq_true rfl) rfl
  · refine ev_icmp_ne 37 dd_X11_sales_24 (by decide) ?_ ?_
    · refine ev_aload_n dd_X11_sales_37 0 rfl ?_
      refine ev_lv (lv' := [(2, .int a2)]) [1] rfl ?_
      refine ev_getR gf_RX11_92 dd_X11_sales_38 ht (by decide) ?_
      refine ev_iload_n dd_X11_sales_41 0 rfl ?_
      refine ev_lv (lv' := []) [] rfl ?_
      refine ev_callVI (As := [.int a2]) cl_RX11_344 (ct_X5_ofFirst l hl G (zgr t 12) (zg_11_12 ht) a2 M3) dd_X11_sales_42 (zg_11_12 ht) (by decide) (Nat.le_of_ble_eq_true rfl) (Nat.le_of_ble_eq_true rfl) rfl rfl (fun r1 M4 => ?_)
      exact hk1 _ _
    · refine ev_lv (lv' := [(0, .ref (G.2.1 + t))]) [0] rfl ?_
      refine ev_aload_n dd_X11_sales_27 0 rfl ?_
      refine ev_lv (lv' := []) [] rfl ?_
      refine ev_getR gf_RX11_92 dd_X11_sales_28 ht (by decide) ?_
      refine ev_getI gf_RX11_341 dd_X11_sales_31 (zg_11_12 ht) (by decide) ?_
      refine ev_goto 45 dd_X11_sales_34 (by decide) ?_
      exact hk1 _ _
/-! X3_clear -/
theorem dd_X3_clear_0 : decode Y_X3_clear.2.1 0 = .ok (.aload_n 0, 1) := by decide +kernel
theorem dd_X3_clear_1 : decode Y_X3_clear.2.1 1 = .ok (.iconst 0, 1) := by decide +kernel
theorem dd_X3_clear_2 : decode Y_X3_clear.2.1 2 = .ok (.putfield 9, 3) := by decide +kernel
theorem dd_X3_clear_5 : decode Y_X3_clear.2.1 5 = .ok (.aload_n 0, 1) := by decide +kernel
theorem dd_X3_clear_6 : decode Y_X3_clear.2.1 6 = .ok (.iconst 0, 1) := by decide +kernel
theorem dd_X3_clear_7 : decode Y_X3_clear.2.1 7 = .ok (.putfield 15, 3) := by decide +kernel
theorem dd_X3_clear_10 : decode Y_X3_clear.2.1 10 = .ok (.return_, 1) := by decide +kernel
def F_X3_clear (t : Nat) (M : zM) : zO := zst (zup M t 0 0) (fun M1 => zst (zup M1 t 1 0) (fun M2 => zV M2))
set_option maxHeartbeats 1000000 in
set_option maxRecDepth 20000 in
theorem ct_X3_clear (l : Launch) (hl : l.stackTraces = false) (G : zG) (t : Nat) (ht : zsh t = 3) (M : zM) : zMt l G Y_X3_clear 1 [.ref (G.2.1 + t)] M (F_X3_clear t M) := by
  refine zMt_of (by decide +kernel) (Nat.le_of_ble_eq_true rfl) ?_
  show zEv l G Y_X3_clear 1 0 0 [(0, .ref (G.2.1 + t))] [] M (zst (zup M t 0 0) (fun M1 => zst (zup M1 t 1 0) (fun M2 => zV M2)))
  refine ev_aload_n dd_X3_clear_0 0 rfl ?_
  refine ev_iconst (v := 0) dd_X3_clear_1 (by decide) ?_
  refine ev_putI gw_RX3_9 dd_X3_clear_2 ht (by decide) ?_
  refine ev_st (fun M1 => ?_)
  refine ev_aload_n dd_X3_clear_5 0 rfl ?_
  refine ev_lv (lv' := []) [] rfl ?_
  refine ev_iconst (v := 0) dd_X3_clear_6 (by decide) ?_
  refine ev_putI gw_RX3_15 dd_X3_clear_7 ht (by decide) ?_
  refine ev_st (fun M2 => ?_)
  exact ev_vret dd_X3_clear_10 rfl (Nat.le_of_ble_eq_true rfl) rfl
/-! X9_copy -/
theorem dd_X9_copy_0 : decode Y_X9_copy.2.1 0 = .ok (.aload_n 1, 1) := by decide +kernel
theorem dd_X9_copy_1 : decode Y_X9_copy.2.1 1 = .ok (.getfield 9, 3) := by decide +kernel
theorem dd_X9_copy_4 : decode Y_X9_copy.2.1 4 = .ok (.iconst 0, 1) := by decide +kernel
theorem dd_X9_copy_5 : decode Y_X9_copy.2.1 5 = .ok (.aload_n 0, 1) := by decide +kernel
theorem dd_X9_copy_6 : decode Y_X9_copy.2.1 6 = .ok (.getfield 9, 3) := by decide +kernel
theorem dd_X9_copy_9 : decode Y_X9_copy.2.1 9 = .ok (.iconst 0, 1) := by decide +kernel
theorem dd_X9_copy_10 : decode Y_X9_copy.2.1 10 = .ok (.aload_n 0, 1) := by decide +kernel
theorem dd_X9_copy_11 : decode Y_X9_copy.2.1 11 = .ok (.getfield 9, 3) := by decide +kernel
theorem dd_X9_copy_14 : decode Y_X9_copy.2.1 14 = .ok (.arraylength, 1) := by decide +kernel
theorem dd_X9_copy_15 : decode Y_X9_copy.2.1 15 = .ok (.invokestatic 32, 3) := by decide +kernel
theorem dd_X9_copy_18 : decode Y_X9_copy.2.1 18 = .ok (.aload_n 1, 1) := by decide +kernel
theorem dd_X9_copy_19 : decode Y_X9_copy.2.1 19 = .ok (.getfield 15, 3) := by decide +kernel
theorem dd_X9_copy_22 : decode Y_X9_copy.2.1 22 = .ok (.iconst 0, 1) := by decide +kernel
theorem dd_X9_copy_23 : decode Y_X9_copy.2.1 23 = .ok (.aload_n 0, 1) := by decide +kernel
theorem dd_X9_copy_24 : decode Y_X9_copy.2.1 24 = .ok (.getfield 15, 3) := by decide +kernel
theorem dd_X9_copy_27 : decode Y_X9_copy.2.1 27 = .ok (.iconst 0, 1) := by decide +kernel
theorem dd_X9_copy_28 : decode Y_X9_copy.2.1 28 = .ok (.aload_n 0, 1) := by decide +kernel
theorem dd_X9_copy_29 : decode Y_X9_copy.2.1 29 = .ok (.getfield 15, 3) := by decide +kernel
theorem dd_X9_copy_32 : decode Y_X9_copy.2.1 32 = .ok (.arraylength, 1) := by decide +kernel
theorem dd_X9_copy_33 : decode Y_X9_copy.2.1 33 = .ok (.invokestatic 32, 3) := by decide +kernel
theorem dd_X9_copy_36 : decode Y_X9_copy.2.1 36 = .ok (.return_, 1) := by decide +kernel
def F_X9_copy (t : Nat) (a1 : Nat) (M : zM) : zO := zck (zcpk 0 0 72 72 72 && zby (M (zgr a1 0)) (zix 0) (zix 72)) (zst (zupA M (zgr t 0) (va_cpy (M (zgr a1 0)) (M (zgr t 0)) (zix 0) (zix 0) (zix 72))) (fun M1 => zck (zcpk 0 0 8 8 8) (zst (zupA M1 (zgr t 1) (va_cpy (M1 (zgr a1 1)) (M1 (zgr t 1)) (zix 0) (zix 0) (zix 8))) (fun M2 => zV M2))))
set_option maxHeartbeats 1000000 in
set_option maxRecDepth 20000 in
theorem ct_X9_copy (l : Launch) (hl : l.stackTraces = false) (G : zG) (t : Nat) (ht : zsh t = 9) (a1 : Nat) (ha1 : zsh a1 = 9) (M : zM) : zMt l G Y_X9_copy 8 [.ref (G.2.1 + t), .ref (G.2.1 + a1)] M (F_X9_copy t a1 M) := by
  refine zMt_of (by decide +kernel) (Nat.le_of_ble_eq_true rfl) ?_
  show zEv l G Y_X9_copy 8 0 0 [(0, .ref (G.2.1 + t)), (1, .ref (G.2.1 + a1))] [] M (zck (zcpk 0 0 72 72 72 && zby (M (zgr a1 0)) (zix 0) (zix 72)) (zst (zupA M (zgr t 0) (va_cpy (M (zgr a1 0)) (M (zgr t 0)) (zix 0) (zix 0) (zix 72))) (fun M1 => zck (zcpk 0 0 8 8 8) (zst (zupA M1 (zgr t 1) (va_cpy (M1 (zgr a1 1)) (M1 (zgr t 1)) (zix 0) (zix 0) (zix 8))) (fun M2 => zV M2)))))
  refine ev_aload_n dd_X9_copy_0 1 rfl ?_
  refine ev_getR gf_RX9_9 dd_X9_copy_1 ha1 (by decide) ?_
  refine ev_iconst (v := 0) dd_X9_copy_4 (by decide) ?_
  refine ev_aload_n dd_X9_copy_5 0 rfl ?_
  refine ev_getR gf_RX9_9 dd_X9_copy_6 ht (by decide) ?_
  refine ev_iconst (v := 0) dd_X9_copy_9 (by decide) ?_
  refine ev_aload_n dd_X9_copy_10 0 rfl ?_
  refine ev_getR gf_RX9_9 dd_X9_copy_11 ht (by decide) ?_
  refine ev_alen (v := 72) dd_X9_copy_14 ((zg_9_0 ht).1) (Or.inr rfl) ((zg_9_0 ht).2) rfl ?_
  refine ev_copyb cw_RX9_32 dd_X9_copy_15 ((zg_9_0 ha1).1) ((zg_9_0 ha1).2) ((zg_9_0 ht).1) ((zg_9_0 ht).2) (Nat.le_of_ble_eq_true rfl) ?_
  refine ev_st (fun M1 => ?_)
  refine ev_aload_n dd_X9_copy_18 1 rfl ?_
  refine ev_lv (lv' := [(0, .ref (G.2.1 + t))]) [0] rfl ?_
  refine ev_getR gf_RX9_15 dd_X9_copy_19 ha1 (by decide) ?_
  refine ev_iconst (v := 0) dd_X9_copy_22 (by decide) ?_
  refine ev_aload_n dd_X9_copy_23 0 rfl ?_
  refine ev_getR gf_RX9_15 dd_X9_copy_24 ht (by decide) ?_
  refine ev_iconst (v := 0) dd_X9_copy_27 (by decide) ?_
  refine ev_aload_n dd_X9_copy_28 0 rfl ?_
  refine ev_lv (lv' := []) [] rfl ?_
  refine ev_getR gf_RX9_15 dd_X9_copy_29 ht (by decide) ?_
  refine ev_alen (v := 8) dd_X9_copy_32 ((zg_9_1 ht).1) (Or.inl rfl) ((zg_9_1 ht).2) rfl ?_
  refine ev_copyi cw_RX9_32 dd_X9_copy_33 ((zg_9_1 ha1).1) ((zg_9_1 ha1).2) ((zg_9_1 ht).1) ((zg_9_1 ht).2) (Nat.le_of_ble_eq_true rfl) ?_
  refine ev_st (fun M2 => ?_)
  exact ev_vret dd_X9_copy_36 rfl (Nat.le_of_ble_eq_true rfl) rfl
/-! X6_copy -/
theorem dd_X6_copy_0 : decode Y_X6_copy.2.1 0 = .ok (.aload_n 0, 1) := by decide +kernel
theorem dd_X6_copy_1 : decode Y_X6_copy.2.1 1 = .ok (.aload_n 1, 1) := by decide +kernel
theorem dd_X6_copy_2 : decode Y_X6_copy.2.1 2 = .ok (.getfield 9, 3) := by decide +kernel
theorem dd_X6_copy_5 : decode Y_X6_copy.2.1 5 = .ok (.putfield 9, 3) := by decide +kernel
theorem dd_X6_copy_8 : decode Y_X6_copy.2.1 8 = .ok (.aload_n 0, 1) := by decide +kernel
theorem dd_X6_copy_9 : decode Y_X6_copy.2.1 9 = .ok (.aload_n 1, 1) := by decide +kernel
theorem dd_X6_copy_10 : decode Y_X6_copy.2.1 10 = .ok (.getfield 15, 3) := by decide +kernel
theorem dd_X6_copy_13 : decode Y_X6_copy.2.1 13 = .ok (.putfield 15, 3) := by decide +kernel
theorem dd_X6_copy_16 : decode Y_X6_copy.2.1 16 = .ok (.aload_n 0, 1) := by decide +kernel
theorem dd_X6_copy_17 : decode Y_X6_copy.2.1 17 = .ok (.aload_n 1, 1) := by decide +kernel
theorem dd_X6_copy_18 : decode Y_X6_copy.2.1 18 = .ok (.getfield 18, 3) := by decide +kernel
theorem dd_X6_copy_21 : decode Y_X6_copy.2.1 21 = .ok (.putfield 18, 3) := by decide +kernel
theorem dd_X6_copy_24 : decode Y_X6_copy.2.1 24 = .ok (.aload_n 0, 1) := by decide +kernel
theorem dd_X6_copy_25 : decode Y_X6_copy.2.1 25 = .ok (.getfield 28, 3) := by decide +kernel
theorem dd_X6_copy_28 : decode Y_X6_copy.2.1 28 = .ok (.aload_n 1, 1) := by decide +kernel
theorem dd_X6_copy_29 : decode Y_X6_copy.2.1 29 = .ok (.getfield 28, 3) := by decide +kernel
theorem dd_X6_copy_32 : decode Y_X6_copy.2.1 32 = .ok (.invokevirtual 73, 3) := by decide +kernel
theorem dd_X6_copy_35 : decode Y_X6_copy.2.1 35 = .ok (.aload_n 0, 1) := by decide +kernel
theorem dd_X6_copy_36 : decode Y_X6_copy.2.1 36 = .ok (.getfield 35, 3) := by decide +kernel
theorem dd_X6_copy_39 : decode Y_X6_copy.2.1 39 = .ok (.aload_n 1, 1) := by decide +kernel
theorem dd_X6_copy_40 : decode Y_X6_copy.2.1 40 = .ok (.getfield 35, 3) := by decide +kernel
theorem dd_X6_copy_43 : decode Y_X6_copy.2.1 43 = .ok (.invokevirtual 77, 3) := by decide +kernel
theorem dd_X6_copy_46 : decode Y_X6_copy.2.1 46 = .ok (.aload_n 1, 1) := by decide +kernel
theorem dd_X6_copy_47 : decode Y_X6_copy.2.1 47 = .ok (.getfield 39, 3) := by decide +kernel
theorem dd_X6_copy_50 : decode Y_X6_copy.2.1 50 = .ok (.iconst 0, 1) := by decide +kernel
theorem dd_X6_copy_51 : decode Y_X6_copy.2.1 51 = .ok (.aload_n 0, 1) := by decide +kernel
theorem dd_X6_copy_52 : decode Y_X6_copy.2.1 52 = .ok (.getfield 39, 3) := by decide +kernel
theorem dd_X6_copy_55 : decode Y_X6_copy.2.1 55 = .ok (.iconst 0, 1) := by decide +kernel
theorem dd_X6_copy_56 : decode Y_X6_copy.2.1 56 = .ok (.bipush 8, 2) := by decide +kernel
theorem dd_X6_copy_58 : decode Y_X6_copy.2.1 58 = .ok (.invokestatic 80, 3) := by decide +kernel
theorem dd_X6_copy_61 : decode Y_X6_copy.2.1 61 = .ok (.aload_n 1, 1) := by decide +kernel
theorem dd_X6_copy_62 : decode Y_X6_copy.2.1 62 = .ok (.getfield 43, 3) := by decide +kernel
theorem dd_X6_copy_65 : decode Y_X6_copy.2.1 65 = .ok (.iconst 0, 1) := by decide +kernel
theorem dd_X6_copy_66 : decode Y_X6_copy.2.1 66 = .ok (.aload_n 0, 1) := by decide +kernel
theorem dd_X6_copy_67 : decode Y_X6_copy.2.1 67 = .ok (.getfield 43, 3) := by decide +kernel
theorem dd_X6_copy_70 : decode Y_X6_copy.2.1 70 = .ok (.iconst 0, 1) := by decide +kernel
theorem dd_X6_copy_71 : decode Y_X6_copy.2.1 71 = .ok (.bipush 8, 2) := by decide +kernel
theorem dd_X6_copy_73 : decode Y_X6_copy.2.1 73 = .ok (.invokestatic 80, 3) := by decide +kernel
theorem dd_X6_copy_76 : decode Y_X6_copy.2.1 76 = .ok (.aload_n 1, 1) := by decide +kernel
theorem dd_X6_copy_77 : decode Y_X6_copy.2.1 77 = .ok (.getfield 46, 3) := by decide +kernel
theorem dd_X6_copy_80 : decode Y_X6_copy.2.1 80 = .ok (.iconst 0, 1) := by decide +kernel
theorem dd_X6_copy_81 : decode Y_X6_copy.2.1 81 = .ok (.aload_n 0, 1) := by decide +kernel
theorem dd_X6_copy_82 : decode Y_X6_copy.2.1 82 = .ok (.getfield 46, 3) := by decide +kernel
theorem dd_X6_copy_85 : decode Y_X6_copy.2.1 85 = .ok (.iconst 0, 1) := by decide +kernel
theorem dd_X6_copy_86 : decode Y_X6_copy.2.1 86 = .ok (.bipush 8, 2) := by decide +kernel
theorem dd_X6_copy_88 : decode Y_X6_copy.2.1 88 = .ok (.invokestatic 80, 3) := by decide +kernel
theorem dd_X6_copy_91 : decode Y_X6_copy.2.1 91 = .ok (.aload_n 1, 1) := by decide +kernel
theorem dd_X6_copy_92 : decode Y_X6_copy.2.1 92 = .ok (.getfield 49, 3) := by decide +kernel
theorem dd_X6_copy_95 : decode Y_X6_copy.2.1 95 = .ok (.iconst 0, 1) := by decide +kernel
theorem dd_X6_copy_96 : decode Y_X6_copy.2.1 96 = .ok (.aload_n 0, 1) := by decide +kernel
theorem dd_X6_copy_97 : decode Y_X6_copy.2.1 97 = .ok (.getfield 49, 3) := by decide +kernel
theorem dd_X6_copy_100 : decode Y_X6_copy.2.1 100 = .ok (.iconst 0, 1) := by decide +kernel
theorem dd_X6_copy_101 : decode Y_X6_copy.2.1 101 = .ok (.bipush 8, 2) := by decide +kernel
theorem dd_X6_copy_103 : decode Y_X6_copy.2.1 103 = .ok (.invokestatic 80, 3) := by decide +kernel
theorem dd_X6_copy_106 : decode Y_X6_copy.2.1 106 = .ok (.aload_n 1, 1) := by decide +kernel
theorem dd_X6_copy_107 : decode Y_X6_copy.2.1 107 = .ok (.getfield 52, 3) := by decide +kernel
theorem dd_X6_copy_110 : decode Y_X6_copy.2.1 110 = .ok (.iconst 0, 1) := by decide +kernel
theorem dd_X6_copy_111 : decode Y_X6_copy.2.1 111 = .ok (.aload_n 0, 1) := by decide +kernel
theorem dd_X6_copy_112 : decode Y_X6_copy.2.1 112 = .ok (.getfield 52, 3) := by decide +kernel
theorem dd_X6_copy_115 : decode Y_X6_copy.2.1 115 = .ok (.iconst 0, 1) := by decide +kernel
theorem dd_X6_copy_116 : decode Y_X6_copy.2.1 116 = .ok (.bipush 64, 2) := by decide +kernel
theorem dd_X6_copy_118 : decode Y_X6_copy.2.1 118 = .ok (.invokestatic 80, 3) := by decide +kernel
theorem dd_X6_copy_121 : decode Y_X6_copy.2.1 121 = .ok (.aload_n 1, 1) := by decide +kernel
theorem dd_X6_copy_122 : decode Y_X6_copy.2.1 122 = .ok (.getfield 55, 3) := by decide +kernel
theorem dd_X6_copy_125 : decode Y_X6_copy.2.1 125 = .ok (.iconst 0, 1) := by decide +kernel
theorem dd_X6_copy_126 : decode Y_X6_copy.2.1 126 = .ok (.aload_n 0, 1) := by decide +kernel
theorem dd_X6_copy_127 : decode Y_X6_copy.2.1 127 = .ok (.getfield 55, 3) := by decide +kernel
theorem dd_X6_copy_130 : decode Y_X6_copy.2.1 130 = .ok (.iconst 0, 1) := by decide +kernel
theorem dd_X6_copy_131 : decode Y_X6_copy.2.1 131 = .ok (.bipush 12, 2) := by decide +kernel
theorem dd_X6_copy_133 : decode Y_X6_copy.2.1 133 = .ok (.invokestatic 80, 3) := by decide +kernel
theorem dd_X6_copy_136 : decode Y_X6_copy.2.1 136 = .ok (.aload_n 1, 1) := by decide +kernel
theorem dd_X6_copy_137 : decode Y_X6_copy.2.1 137 = .ok (.getfield 58, 3) := by decide +kernel
theorem dd_X6_copy_140 : decode Y_X6_copy.2.1 140 = .ok (.iconst 0, 1) := by decide +kernel
theorem dd_X6_copy_141 : decode Y_X6_copy.2.1 141 = .ok (.aload_n 0, 1) := by decide +kernel
theorem dd_X6_copy_142 : decode Y_X6_copy.2.1 142 = .ok (.getfield 58, 3) := by decide +kernel
theorem dd_X6_copy_145 : decode Y_X6_copy.2.1 145 = .ok (.iconst 0, 1) := by decide +kernel
theorem dd_X6_copy_146 : decode Y_X6_copy.2.1 146 = .ok (.bipush 12, 2) := by decide +kernel
theorem dd_X6_copy_148 : decode Y_X6_copy.2.1 148 = .ok (.invokestatic 80, 3) := by decide +kernel
theorem dd_X6_copy_151 : decode Y_X6_copy.2.1 151 = .ok (.aload_n 1, 1) := by decide +kernel
theorem dd_X6_copy_152 : decode Y_X6_copy.2.1 152 = .ok (.getfield 61, 3) := by decide +kernel
theorem dd_X6_copy_155 : decode Y_X6_copy.2.1 155 = .ok (.iconst 0, 1) := by decide +kernel
theorem dd_X6_copy_156 : decode Y_X6_copy.2.1 156 = .ok (.aload_n 0, 1) := by decide +kernel
theorem dd_X6_copy_157 : decode Y_X6_copy.2.1 157 = .ok (.getfield 61, 3) := by decide +kernel
theorem dd_X6_copy_160 : decode Y_X6_copy.2.1 160 = .ok (.iconst 0, 1) := by decide +kernel
theorem dd_X6_copy_161 : decode Y_X6_copy.2.1 161 = .ok (.bipush 12, 2) := by decide +kernel
theorem dd_X6_copy_163 : decode Y_X6_copy.2.1 163 = .ok (.invokestatic 80, 3) := by decide +kernel
theorem dd_X6_copy_166 : decode Y_X6_copy.2.1 166 = .ok (.return_, 1) := by decide +kernel
def F_X6_copy (t : Nat) (a1 : Nat) (M : zM) : zO := zst (zup M t 0 (M a1 0)) (fun M1 => zst (zup M1 t 1 (M1 a1 1)) (fun M2 => zst (zup M2 t 2 (M2 a1 2)) (fun M3 => zbV (F_X9_copy (zgr t 4) (zgr a1 4) M3) (fun M4 => zbV (F_X0_copy (zgr t 5) (zgr a1 5) M4) (fun M5 => zck (zcpk 0 0 8 8 8) (zst (zupA M5 (zgr t 6) (va_cpy (M5 (zgr a1 6)) (M5 (zgr t 6)) (zix 0) (zix 0) (zix 8))) (fun M6 => zck (zcpk 0 0 8 8 8) (zst (zupA M6 (zgr t 7) (va_cpy (M6 (zgr a1 7)) (M6 (zgr t 7)) (zix 0) (zix 0) (zix 8))) (fun M7 => zck (zcpk 0 0 8 8 8) (zst (zupA M7 (zgr t 8) (va_cpy (M7 (zgr a1 8)) (M7 (zgr t 8)) (zix 0) (zix 0) (zix 8))) (fun M8 => zck (zcpk 0 0 8 8 8) (zst (zupA M8 (zgr t 9) (va_cpy (M8 (zgr a1 9)) (M8 (zgr t 9)) (zix 0) (zix 0) (zix 8))) (fun M9 => zck (zcpk 0 0 64 64 64) (zst (zupA M9 (zgr t 10) (va_cpy (M9 (zgr a1 10)) (M9 (zgr t 10)) (zix 0) (zix 0) (zix 64))) (fun M10 => zck (zcpk 0 0 12 12 12) (zst (zupA M10 (zgr t 11) (va_cpy (M10 (zgr a1 11)) (M10 (zgr t 11)) (zix 0) (zix 0) (zix 12))) (fun M11 => zck (zcpk 0 0 12 12 12) (zst (zupA M11 (zgr t 12) (va_cpy (M11 (zgr a1 12)) (M11 (zgr t 12)) (zix 0) (zix 0) (zix 12))) (fun M12 => zck (zcpk 0 0 12 12 12) (zst (zupA M12 (zgr t 13) (va_cpy (M12 (zgr a1 13)) (M12 (zgr t 13)) (zix 0) (zix 0) (zix 12))) (fun M13 => zV M13)))))))))))))))))))))
set_option maxHeartbeats 1000000 in
set_option maxRecDepth 20000 in
theorem ct_X6_copy (l : Launch) (hl : l.stackTraces = false) (G : zG) (t : Nat) (ht : zsh t = 6) (a1 : Nat) (ha1 : zsh a1 = 6) (M : zM) : zMt l G Y_X6_copy 9 [.ref (G.2.1 + t), .ref (G.2.1 + a1)] M (F_X6_copy t a1 M) := by
  refine zMt_of (by decide +kernel) (Nat.le_of_ble_eq_true rfl) ?_
  show zEv l G Y_X6_copy 9 0 0 [(0, .ref (G.2.1 + t)), (1, .ref (G.2.1 + a1))] [] M (zst (zup M t 0 (M a1 0)) (fun M1 => zst (zup M1 t 1 (M1 a1 1)) (fun M2 => zst (zup M2 t 2 (M2 a1 2)) (fun M3 => zbV (F_X9_copy (zgr t 4) (zgr a1 4) M3) (fun M4 => zbV (F_X0_copy (zgr t 5) (zgr a1 5) M4) (fun M5 => zck (zcpk 0 0 8 8 8) (zst (zupA M5 (zgr t 6) (va_cpy (M5 (zgr a1 6)) (M5 (zgr t 6)) (zix 0) (zix 0) (zix 8))) (fun M6 => zck (zcpk 0 0 8 8 8) (zst (zupA M6 (zgr t 7) (va_cpy (M6 (zgr a1 7)) (M6 (zgr t 7)) (zix 0) (zix 0) (zix 8))) (fun M7 => zck (zcpk 0 0 8 8 8) (zst (zupA M7 (zgr t 8) (va_cpy (M7 (zgr a1 8)) (M7 (zgr t 8)) (zix 0) (zix 0) (zix 8))) (fun M8 => zck (zcpk 0 0 8 8 8) (zst (zupA M8 (zgr t 9) (va_cpy (M8 (zgr a1 9)) (M8 (zgr t 9)) (zix 0) (zix 0) (zix 8))) (fun M9 => zck (zcpk 0 0 64 64 64) (zst (zupA M9 (zgr t 10) (va_cpy (M9 (zgr a1 10)) (M9 (zgr t 10)) (zix 0) (zix 0) (zix 64))) (fun M10 => zck (zcpk 0 0 12 12 12) (zst (zupA M10 (zgr t 11) (va_cpy (M10 (zgr a1 11)) (M10 (zgr t 11)) (zix 0) (zix 0) (zix 12))) (fun M11 => zck (zcpk 0 0 12 12 12) (zst (zupA M11 (zgr t 12) (va_cpy (M11 (zgr a1 12)) (M11 (zgr t 12)) (zix 0) (zix 0) (zix 12))) (fun M12 => zck (zcpk 0 0 12 12 12) (zst (zupA M12 (zgr t 13) (va_cpy (M12 (zgr a1 13)) (M12 (zgr t 13)) (zix 0) (zix 0) (zix 12))) (fun M13 => zV M13))))))))))))))))))))))
  refine ev_aload_n dd_X6_copy_0 0 rfl ?_
  refine ev_aload_n dd_X6_copy_1 1 rfl ?_
  refine ev_getI gf_RX6_9 dd_X6_copy_2 ha1 (by decide) ?_
  refine ev_putI gw_RX6_9 dd_X6_copy_5 ht (by decide) ?_
  refine ev_st (fun M1 => ?_)
  refine ev_aload_n dd_X6_copy_8 0 rfl ?_
  refine ev_aload_n dd_X6_copy_9 1 rfl ?_
  refine ev_getI gf_RX6_15 dd_X6_copy_10 ha1 (by decide) ?_
  refine ev_putI gw_RX6_15 dd_X6_copy_13 ht (by decide) ?_
  refine ev_st (fun M2 => ?_)
  refine ev_aload_n dd_X6_copy_16 0 rfl ?_
  refine ev_aload_n dd_X6_copy_17 1 rfl ?_
  refine ev_getI gf_RX6_18 dd_X6_copy_18 ha1 (by decide) ?_
  refine ev_putI gw_RX6_18 dd_X6_copy_21 ht (by decide) ?_
  refine ev_st (fun M3 => ?_)
  refine ev_aload_n dd_X6_copy_24 0 rfl ?_
  refine ev_getR gf_RX6_28 dd_X6_copy_25 ht (by decide) ?_
  refine ev_aload_n dd_X6_copy_28 1 rfl ?_
  refine ev_getR gf_RX6_28 dd_X6_copy_29 ha1 (by decide) ?_
  refine ev_callVV (As := [.ref (G.2.1 + (zgr a1 4))]) cl_RX6_73 (ct_X9_copy l hl G (zgr t 4) (zg_6_4 ht) (zgr a1 4) (zg_6_4 ha1) M3) dd_X6_copy_32 (zg_6_4 ht) (by decide) (Nat.le_of_ble_eq_true rfl) (Nat.le_of_ble_eq_true rfl) rfl rfl (fun M4 => ?_)
  refine ev_aload_n dd_X6_copy_35 0 rfl ?_
  refine ev_getR gf_RX6_35 dd_X6_copy_36 ht (by decide) ?_
  refine ev_aload_n dd_X6_copy_39 1 rfl ?_
  refine ev_getR gf_RX6_35 dd_X6_copy_40 ha1 (by decide) ?_
  refine ev_callVV (As := [.ref (G.2.1 + (zgr a1 5))]) cl_RX6_77 (ct_X0_copy l hl G (zgr t 5) (zg_6_5 ht) (zgr a1 5) (zg_6_5 ha1) M4) dd_X6_copy_43 (zg_6_5 ht) (by decide) (Nat.le_of_ble_eq_true rfl) (Nat.le_of_ble_eq_true rfl) rfl rfl (fun M5 => ?_)
  refine ev_aload_n dd_X6_copy_46 1 rfl ?_
  refine ev_getR gf_RX6_39 dd_X6_copy_47 ha1 (by decide) ?_
  refine ev_iconst (v := 0) dd_X6_copy_50 (by decide) ?_
  refine ev_aload_n dd_X6_copy_51 0 rfl ?_
  refine ev_getR gf_RX6_39 dd_X6_copy_52 ht (by decide) ?_
  refine ev_iconst (v := 0) dd_X6_copy_55 (by decide) ?_
  refine ev_bipush (v := 8) dd_X6_copy_56 (by decide) ?_
  refine ev_copyi cw_RX6_80 dd_X6_copy_58 ((zg_6_6 ha1).1) ((zg_6_6 ha1).2) ((zg_6_6 ht).1) ((zg_6_6 ht).2) (Nat.le_of_ble_eq_true rfl) ?_
  refine ev_st (fun M6 => ?_)
  refine ev_aload_n dd_X6_copy_61 1 rfl ?_
  refine ev_getR gf_RX6_43 dd_X6_copy_62 ha1 (by decide) ?_
  refine ev_iconst (v := 0) dd_X6_copy_65 (by decide) ?_
  refine ev_aload_n dd_X6_copy_66 0 rfl ?_
  refine ev_getR gf_RX6_43 dd_X6_copy_67 ht (by decide) ?_
  refine ev_iconst (v := 0) dd_X6_copy_70 (by decide) ?_
  refine ev_bipush (v := 8) dd_X6_copy_71 (by decide) ?_
  refine ev_copyi cw_RX6_80 dd_X6_copy_73 ((zg_6_7 ha1).1) ((zg_6_7 ha1).2) ((zg_6_7 ht).1) ((zg_6_7 ht).2) (Nat.le_of_ble_eq_true rfl) ?_
  refine ev_st (fun M7 => ?_)
  refine ev_aload_n dd_X6_copy_76 1 rfl ?_
  refine ev_getR gf_RX6_46 dd_X6_copy_77 ha1 (by decide) ?_
  refine ev_iconst (v := 0) dd_X6_copy_80 (by decide) ?_
  refine ev_aload_n dd_X6_copy_81 0 rfl ?_
  refine ev_getR gf_RX6_46 dd_X6_copy_82 ht (by decide) ?_
  refine ev_iconst (v := 0) dd_X6_copy_85 (by decide) ?_
  refine ev_bipush (v := 8) dd_X6_copy_86 (by decide) ?_
  refine ev_copyi cw_RX6_80 dd_X6_copy_88 ((zg_6_8 ha1).1) ((zg_6_8 ha1).2) ((zg_6_8 ht).1) ((zg_6_8 ht).2) (Nat.le_of_ble_eq_true rfl) ?_
  refine ev_st (fun M8 => ?_)
  refine ev_aload_n dd_X6_copy_91 1 rfl ?_
  refine ev_getR gf_RX6_49 dd_X6_copy_92 ha1 (by decide) ?_
  refine ev_iconst (v := 0) dd_X6_copy_95 (by decide) ?_
  refine ev_aload_n dd_X6_copy_96 0 rfl ?_
  refine ev_getR gf_RX6_49 dd_X6_copy_97 ht (by decide) ?_
  refine ev_iconst (v := 0) dd_X6_copy_100 (by decide) ?_
  refine ev_bipush (v := 8) dd_X6_copy_101 (by decide) ?_
  refine ev_copyi cw_RX6_80 dd_X6_copy_103 ((zg_6_9 ha1).1) ((zg_6_9 ha1).2) ((zg_6_9 ht).1) ((zg_6_9 ht).2) (Nat.le_of_ble_eq_true rfl) ?_
  refine ev_st (fun M9 => ?_)
  refine ev_aload_n dd_X6_copy_106 1 rfl ?_
  refine ev_getR gf_RX6_52 dd_X6_copy_107 ha1 (by decide) ?_
  refine ev_iconst (v := 0) dd_X6_copy_110 (by decide) ?_
  refine ev_aload_n dd_X6_copy_111 0 rfl ?_
  refine ev_getR gf_RX6_52 dd_X6_copy_112 ht (by decide) ?_
  refine ev_iconst (v := 0) dd_X6_copy_115 (by decide) ?_
  refine ev_bipush (v := 64) dd_X6_copy_116 (by decide) ?_
  refine ev_copyi cw_RX6_80 dd_X6_copy_118 ((zg_6_10 ha1).1) ((zg_6_10 ha1).2) ((zg_6_10 ht).1) ((zg_6_10 ht).2) (Nat.le_of_ble_eq_true rfl) ?_
  refine ev_st (fun M10 => ?_)
  refine ev_aload_n dd_X6_copy_121 1 rfl ?_
  refine ev_getR gf_RX6_55 dd_X6_copy_122 ha1 (by decide) ?_
  refine ev_iconst (v := 0) dd_X6_copy_125 (by decide) ?_
  refine ev_aload_n dd_X6_copy_126 0 rfl ?_
  refine ev_getR gf_RX6_55 dd_X6_copy_127 ht (by decide) ?_
  refine ev_iconst (v := 0) dd_X6_copy_130 (by decide) ?_
  refine ev_bipush (v := 12) dd_X6_copy_131 (by decide) ?_
  refine ev_copyi cw_RX6_80 dd_X6_copy_133 ((zg_6_11 ha1).1) ((zg_6_11 ha1).2) ((zg_6_11 ht).1) ((zg_6_11 ht).2) (Nat.le_of_ble_eq_true rfl) ?_
  refine ev_st (fun M11 => ?_)
  refine ev_aload_n dd_X6_copy_136 1 rfl ?_
  refine ev_getR gf_RX6_58 dd_X6_copy_137 ha1 (by decide) ?_
  refine ev_iconst (v := 0) dd_X6_copy_140 (by decide) ?_
  refine ev_aload_n dd_X6_copy_141 0 rfl ?_
  refine ev_getR gf_RX6_58 dd_X6_copy_142 ht (by decide) ?_
  refine ev_iconst (v := 0) dd_X6_copy_145 (by decide) ?_
  refine ev_bipush (v := 12) dd_X6_copy_146 (by decide) ?_
  refine ev_copyi cw_RX6_80 dd_X6_copy_148 ((zg_6_12 ha1).1) ((zg_6_12 ha1).2) ((zg_6_12 ht).1) ((zg_6_12 ht).2) (Nat.le_of_ble_eq_true rfl) ?_
  refine ev_st (fun M12 => ?_)
  refine ev_aload_n dd_X6_copy_151 1 rfl ?_
  refine ev_lv (lv' := [(0, .ref (G.2.1 + t))]) [0] rfl ?_
  refine ev_getR gf_RX6_61 dd_X6_copy_152 ha1 (by decide) ?_
  refine ev_iconst (v := 0) dd_X6_copy_155 (by decide) ?_
  refine ev_aload_n dd_X6_copy_156 0 rfl ?_
  refine ev_lv (lv' := []) [] rfl ?_
  refine ev_getR gf_RX6_61 dd_X6_copy_157 ht (by decide) ?_
  refine ev_iconst (v := 0) dd_X6_copy_160 (by decide) ?_
  refine ev_bipush (v := 12) dd_X6_copy_161 (by decide) ?_
  refine ev_copyi cw_RX6_80 dd_X6_copy_163 ((zg_6_13 ha1).1) ((zg_6_13 ha1).2) ((zg_6_13 ht).1) ((zg_6_13 ht).2) (Nat.le_of_ble_eq_true rfl) ?_
  refine ev_st (fun M13 => ?_)
  exact ev_vret dd_X6_copy_166 rfl (Nat.le_of_ble_eq_true rfl) rfl
/-! X6_clear -/
theorem dd_X6_clear_0 : decode Y_X6_clear.2.1 0 = .ok (.aload_n 0, 1) := by decide +kernel
theorem dd_X6_clear_1 : decode Y_X6_clear.2.1 1 = .ok (.iconst 0, 1) := by decide +kernel
theorem dd_X6_clear_2 : decode Y_X6_clear.2.1 2 = .ok (.putfield 9, 3) := by decide +kernel
theorem dd_X6_clear_5 : decode Y_X6_clear.2.1 5 = .ok (.aload_n 0, 1) := by decide +kernel
theorem dd_X6_clear_6 : decode Y_X6_clear.2.1 6 = .ok (.iconst 0, 1) := by decide +kernel
theorem dd_X6_clear_7 : decode Y_X6_clear.2.1 7 = .ok (.putfield 15, 3) := by decide +kernel
theorem dd_X6_clear_10 : decode Y_X6_clear.2.1 10 = .ok (.aload_n 0, 1) := by decide +kernel
theorem dd_X6_clear_11 : decode Y_X6_clear.2.1 11 = .ok (.iconst 3, 1) := by decide +kernel
theorem dd_X6_clear_12 : decode Y_X6_clear.2.1 12 = .ok (.putfield 18, 3) := by decide +kernel
theorem dd_X6_clear_15 : decode Y_X6_clear.2.1 15 = .ok (.aload_n 0, 1) := by decide +kernel
theorem dd_X6_clear_16 : decode Y_X6_clear.2.1 16 = .ok (.iconst 0, 1) := by decide +kernel
theorem dd_X6_clear_17 : decode Y_X6_clear.2.1 17 = .ok (.putfield 21, 3) := by decide +kernel
theorem dd_X6_clear_20 : decode Y_X6_clear.2.1 20 = .ok (.aload_n 0, 1) := by decide +kernel
theorem dd_X6_clear_21 : decode Y_X6_clear.2.1 21 = .ok (.getfield 35, 3) := by decide +kernel
theorem dd_X6_clear_24 : decode Y_X6_clear.2.1 24 = .ok (.invokevirtual 64, 3) := by decide +kernel
theorem dd_X6_clear_27 : decode Y_X6_clear.2.1 27 = .ok (.aload_n 0, 1) := by decide +kernel
theorem dd_X6_clear_28 : decode Y_X6_clear.2.1 28 = .ok (.getfield 49, 3) := by decide +kernel
theorem dd_X6_clear_31 : decode Y_X6_clear.2.1 31 = .ok (.iconst 0, 1) := by decide +kernel
theorem dd_X6_clear_32 : decode Y_X6_clear.2.1 32 = .ok (.invokestatic 67, 3) := by decide +kernel
theorem dd_X6_clear_35 : decode Y_X6_clear.2.1 35 = .ok (.aload_n 0, 1) := by decide +kernel
theorem dd_X6_clear_36 : decode Y_X6_clear.2.1 36 = .ok (.getfield 52, 3) := by decide +kernel
theorem dd_X6_clear_39 : decode Y_X6_clear.2.1 39 = .ok (.iconst 0, 1) := by decide +kernel
theorem dd_X6_clear_40 : decode Y_X6_clear.2.1 40 = .ok (.invokestatic 67, 3) := by decide +kernel
theorem dd_X6_clear_43 : decode Y_X6_clear.2.1 43 = .ok (.return_, 1) := by decide +kernel
def F_X6_clear (t : Nat) (M : zM) : zO := zst (zup M t 0 0) (fun M1 => zst (zup M1 t 1 0) (fun M2 => zst (zup M2 t 2 3) (fun M3 => zck (zbo 0) (zst (zup M3 t 3 0) (fun M4 => zbV (F_X0_clear (zgr t 5) M4) (fun M5 => zbV (F_J7_fill_53178 (zgr t 9) 0 M5) (fun M6 => zbV (F_J7_fill_53178 (zgr t 10) 0 M6) (fun M7 => zV M7))))))))
set_option maxHeartbeats 1000000 in
set_option maxRecDepth 20000 in
theorem ct_X6_clear (l : Launch) (hl : l.stackTraces = false) (G : zG) (t : Nat) (ht : zsh t = 6) (M : zM) : zMt l G Y_X6_clear 2 [.ref (G.2.1 + t)] M (F_X6_clear t M) := by
  refine zMt_of (by decide +kernel) (Nat.le_of_ble_eq_true rfl) ?_
  show zEv l G Y_X6_clear 2 0 0 [(0, .ref (G.2.1 + t))] [] M (zst (zup M t 0 0) (fun M1 => zst (zup M1 t 1 0) (fun M2 => zst (zup M2 t 2 3) (fun M3 => zck (zbo 0) (zst (zup M3 t 3 0) (fun M4 => zbV (F_X0_clear (zgr t 5) M4) (fun M5 => zbV (F_J7_fill_53178 (zgr t 9) 0 M5) (fun M6 => zbV (F_J7_fill_53178 (zgr t 10) 0 M6) (fun M7 => zV M7)))))))))
  refine ev_aload_n dd_X6_clear_0 0 rfl ?_
  refine ev_iconst (v := 0) dd_X6_clear_1 (by decide) ?_
  refine ev_putI gw_RX6_9 dd_X6_clear_2 ht (by decide) ?_
  refine ev_st (fun M1 => ?_)
  refine ev_aload_n dd_X6_clear_5 0 rfl ?_
  refine ev_iconst (v := 0) dd_X6_clear_6 (by decide) ?_
  refine ev_putI gw_RX6_15 dd_X6_clear_7 ht (by decide) ?_
  refine ev_st (fun M2 => ?_)
  refine ev_aload_n dd_X6_clear_10 0 rfl ?_
  refine ev_iconst (v := 3) dd_X6_clear_11 (by decide) ?_
  refine ev_putI gw_RX6_18 dd_X6_clear_12 ht (by decide) ?_
  refine ev_st (fun M3 => ?_)
  refine ev_aload_n dd_X6_clear_15 0 rfl ?_
  refine ev_iconst (v := 0) dd_X6_clear_16 (by decide) ?_
  refine ev_putZ gw_RX6_21 dd_X6_clear_17 ht (by decide) ?_
  refine ev_st (fun M4 => ?_)
  refine ev_aload_n dd_X6_clear_20 0 rfl ?_
  refine ev_getR gf_RX6_35 dd_X6_clear_21 ht (by decide) ?_
  refine ev_callVV (As := []) cl_RX6_64 (ct_X0_clear l hl G (zgr t 5) (zg_6_5 ht) M4) dd_X6_clear_24 (zg_6_5 ht) (by decide) (Nat.le_of_ble_eq_true rfl) (Nat.le_of_ble_eq_true rfl) rfl rfl (fun M5 => ?_)
  refine ev_aload_n dd_X6_clear_27 0 rfl ?_
  refine ev_getR gf_RX6_49 dd_X6_clear_28 ht (by decide) ?_
  refine ev_iconst (v := 0) dd_X6_clear_31 (by decide) ?_
  refine ev_callSV (As := [.ref (G.2.1 + (zgr t 9)), .int 0]) cl_RX6_67 (ct_J7_fill_53178 l hl G (zgr t 9) ((zg_6_9 ht).1) 0 M5) dd_X6_clear_32 (by decide) (Nat.le_of_ble_eq_true rfl) (Nat.le_of_ble_eq_true rfl) rfl rfl (fun M6 => ?_)
  refine ev_aload_n dd_X6_clear_35 0 rfl ?_
  refine ev_lv (lv' := []) [] rfl ?_
  refine ev_getR gf_RX6_52 dd_X6_clear_36 ht (by decide) ?_
  refine ev_iconst (v := 0) dd_X6_clear_39 (by decide) ?_
  refine ev_callSV (As := [.ref (G.2.1 + (zgr t 10)), .int 0]) cl_RX6_67 (ct_J7_fill_53178 l hl G (zgr t 10) ((zg_6_10 ht).1) 0 M6) dd_X6_clear_40 (by decide) (Nat.le_of_ble_eq_true rfl) (Nat.le_of_ble_eq_true rfl) rfl rfl (fun M7 => ?_)
  exact ev_vret dd_X6_clear_43 rfl (Nat.le_of_ble_eq_true rfl) rfl
/-! X8_standsTold -/
theorem dd_X8_standsTold_0 : decode Y_X8_standsTold.2.1 0 = .ok (.aload_n 0, 1) := by decide +kernel
theorem dd_X8_standsTold_1 : decode Y_X8_standsTold.2.1 1 = .ok (.iconst 0, 1) := by decide +kernel
theorem dd_X8_standsTold_2 : decode Y_X8_standsTold.2.1 2 = .ok (.sipush 9999, 3) := by decide +kernel
theorem dd_X8_standsTold_5 : decode Y_X8_standsTold.2.1 5 = .ok (.invokevirtual 71, 3) := by decide +kernel
theorem dd_X8_standsTold_8 : decode Y_X8_standsTold.2.1 8 = .ok (.ifCond .eq 16, 3) := by decide +kernel
theorem dd_X8_standsTold_11 : decode Y_X8_standsTold.2.1 11 = .ok (.aload_n 0, 1) := by decide +kernel
theorem dd_X8_standsTold_12 : decode Y_X8_standsTold.2.1 12 = .ok (.getfield 31, 3) := by decide +kernel
theorem dd_X8_standsTold_15 : decode Y_X8_standsTold.2.1 15 = .ok (.iload_n 1, 1) := by decide +kernel
theorem dd_X8_standsTold_16 : decode Y_X8_standsTold.2.1 16 = .ok (.if_icmp .lt 8, 3) := by decide +kernel
theorem dd_X8_standsTold_19 : decode Y_X8_standsTold.2.1 19 = .ok (.aload_n 0, 1) := by decide +kernel
theorem dd_X8_standsTold_20 : decode Y_X8_standsTold.2.1 20 = .ok (.iconst 3, 1) := by decide +kernel
theorem dd_X8_standsTold_21 : decode Y_X8_standsTold.2.1 21 = .ok (.invokevirtual 67, 3) := by decide +kernel
theorem dd_X8_standsTold_24 : decode Y_X8_standsTold.2.1 24 = .ok (.aload_n 0, 1) := by decide +kernel
theorem dd_X8_standsTold_25 : decode Y_X8_standsTold.2.1 25 = .ok (.getfield 34, 3) := by decide +kernel
theorem dd_X8_standsTold_28 : decode Y_X8_standsTold.2.1 28 = .ok (.ifCond .ne 7, 3) := by decide +kernel
theorem dd_X8_standsTold_31 : decode Y_X8_standsTold.2.1 31 = .ok (.iconst 1, 1) := by decide +kernel
theorem dd_X8_standsTold_32 : decode Y_X8_standsTold.2.1 32 = .ok (.goto 4, 3) := by decide +kernel
theorem dd_X8_standsTold_35 : decode Y_X8_standsTold.2.1 35 = .ok (.iconst 0, 1) := by decide +kernel
theorem dd_X8_standsTold_36 : decode Y_X8_standsTold.2.1 36 = .ok (.ireturn, 1) := by decide +kernel
def F_X8_standsTold (t : Nat) (a1 : Int32) (M : zM) : zO := zbI (F_X8_standsNumber t 0 9999 M) (fun r1 M1 => zjo (fun  (M3 : zM) => zjo (fun (w1 : Int32) (M4 : zM) => zck (zbo w1) (zI w1 M4)) (fun (k2 : Int32 → zM → zO) => zit ((M3 t 7) = 0) (k2 1 M3) (k2 0 M3))) (fun (k1 : zM → zO) => zit (r1 = 0) (k1 M1) (zit ((M1 t 6) < a1) (k1 M1) (zbV (F_X8_refuse t 3 M1) (fun M2 => k1 M2)))))
set_option maxHeartbeats 1000000 in
set_option maxRecDepth 20000 in
theorem ct_X8_standsTold (l : Launch) (hl : l.stackTraces = false) (G : zG) (t : Nat) (ht : zsh t = 8) (a1 : Int32) (M : zM) : zMt l G Y_X8_standsTold 3 [.ref (G.2.1 + t), .int a1] M (F_X8_standsTold t a1 M) := by
  refine zMt_of (by decide +kernel) (Nat.le_of_ble_eq_true rfl) ?_
  show zEv l G Y_X8_standsTold 3 0 0 [(0, .ref (G.2.1 + t)), (1, .int a1)] [] M (zbI (F_X8_standsNumber t 0 9999 M) (fun r1 M1 => zjo (fun  (M3 : zM) => zjo (fun (w1 : Int32) (M4 : zM) => zck (zbo w1) (zI w1 M4)) (fun (k2 : Int32 → zM → zO) => zit ((M3 t 7) = 0) (k2 1 M3) (k2 0 M3))) (fun (k1 : zM → zO) => zit (r1 = 0) (k1 M1) (zit ((M1 t 6) < a1) (k1 M1) (zbV (F_X8_refuse t 3 M1) (fun M2 => k1 M2))))))
  refine ev_aload_n dd_X8_standsTold_0 0 rfl ?_
  refine ev_iconst (v := 0) dd_X8_standsTold_1 (by decide) ?_
  refine ev_sipush (v := 9999) dd_X8_standsTold_2 (by decide) ?_
  refine ev_callVI (As := [.int 0, .int 9999]) cl_RX8_71 (ct_X8_standsNumber l hl G t ht 0 9999 M) dd_X8_standsTold_5 ht (by decide) (Nat.le_of_ble_eq_true rfl) (Nat.le_of_ble_eq_true rfl) rfl rfl (fun r1 M1 => ?_)
  refine ev_jo (fun (k1 : zM → zO) => ∀  (M3 : zM), zEv l G Y_X8_standsTold 3 0 24 [(0, .ref (G.2.1 + t))] [] M3 (k1 M3)) ?_ (fun k1 hk1 => ?_)
  · intro M3
    refine ev_aload_n dd_X8_standsTold_24 0 rfl ?_
    refine ev_lv (lv' := []) [] rfl ?_
    refine ev_getI gf_RX8_34 dd_X8_standsTold_25 ht (by decide) ?_
    refine ev_jo (fun (k2 : Int32 → zM → zO) => ∀ (w1 : Int32) (M4 : zM), zEv l G Y_X8_standsTold 3 0 36 [] [.int w1] M4 (k2 w1 M4)) ?_ (fun k2 hk2 => ?_)
    · intro w1 M4
      exact ev_zret dd_X8_standsTold_36 rfl (Nat.le_of_ble_eq_true rfl) rfl
    · refine ev_if_ne 35 dd_X8_standsTold_28 (by decide) ?_ ?_
      · refine ev_iconst (v := 0) dd_X8_standsTold_35 (by decide) ?_
        exact hk2 _ _
      · refine ev_iconst (v := 1) dd_X8_standsTold_31 (by decide) ?_
        refine ev_goto 36 dd_X8_standsTold_32 (by decide) ?_
        exact hk2 _ _
  · refine ev_if_eq 24 dd_X8_standsTold_8 (by decide) ?_ ?_
    · refine ev_lv (lv' := [(0, .ref (G.2.1 + t))]) [0] rfl ?_
      exact hk1 _
    · refine ev_aload_n dd_X8_standsTold_11 0 rfl ?_
      refine ev_getI gf_RX8_31 dd_X8_standsTold_12 ht (by decide) ?_
      refine ev_iload_n dd_X8_standsTold_15 1 rfl ?_
      refine ev_lv (lv' := [(0, .ref (G.2.1 + t))]) [0] rfl ?_
      refine ev_icmp_lt 24 dd_X8_standsTold_16 (by decide) ?_ ?_
      · exact hk1 _
      · refine ev_aload_n dd_X8_standsTold_19 0 rfl ?_
        refine ev_iconst (v := 3) dd_X8_standsTold_20 (by decide) ?_
        refine ev_callVV (As := [.int 3]) cl_RX8_67 (ct_X8_refuse l hl G t ht 3 M1) dd_X8_standsTold_21 ht (by decide) (Nat.le_of_ble_eq_true rfl) (Nat.le_of_ble_eq_true rfl) rfl rfl (fun M2 => ?_)
        exact hk1 _
/-! X7_readFair -/
theorem dd_X7_readFair_0 : decode Y_X7_readFair.2.1 0 = .ok (.aload_n 0, 1) := by decide +kernel
theorem dd_X7_readFair_1 : decode Y_X7_readFair.2.1 1 = .ok (.getfield 15, 3) := by decide +kernel
theorem dd_X7_readFair_4 : decode Y_X7_readFair.2.1 4 = .ok (.getfield 136, 3) := by decide +kernel
theorem dd_X7_readFair_7 : decode Y_X7_readFair.2.1 7 = .ok (.bipush 12, 2) := by decide +kernel
theorem dd_X7_readFair_9 : decode Y_X7_readFair.2.1 9 = .ok (.if_icmp .lt 12, 3) := by decide +kernel
theorem dd_X7_readFair_12 : decode Y_X7_readFair.2.1 12 = .ok (.aload_n 0, 1) := by decide +kernel
theorem dd_X7_readFair_13 : decode Y_X7_readFair.2.1 13 = .ok (.getfield 9, 3) := by decide +kernel
theorem dd_X7_readFair_16 : decode Y_X7_readFair.2.1 16 = .ok (.iconst 2, 1) := by decide +kernel
theorem dd_X7_readFair_17 : decode Y_X7_readFair.2.1 17 = .ok (.invokevirtual 72, 3) := by decide +kernel
theorem dd_X7_readFair_20 : decode Y_X7_readFair.2.1 20 = .ok (.return_, 1) := by decide +kernel
theorem dd_X7_readFair_21 : decode Y_X7_readFair.2.1 21 = .ok (.aload_n 0, 1) := by decide +kernel
theorem dd_X7_readFair_22 : decode Y_X7_readFair.2.1 22 = .ok (.getfield 9, 3) := by decide +kernel
theorem dd_X7_readFair_25 : decode Y_X7_readFair.2.1 25 = .ok (.invokevirtual 78, 3) := by decide +kernel
theorem dd_X7_readFair_28 : decode Y_X7_readFair.2.1 28 = .ok (.aload_n 0, 1) := by decide +kernel
theorem dd_X7_readFair_29 : decode Y_X7_readFair.2.1 29 = .ok (.getfield 15, 3) := by decide +kernel
theorem dd_X7_readFair_32 : decode Y_X7_readFair.2.1 32 = .ok (.getfield 139, 3) := by decide +kernel
theorem dd_X7_readFair_35 : decode Y_X7_readFair.2.1 35 = .ok (.aload_n 0, 1) := by decide +kernel
theorem dd_X7_readFair_36 : decode Y_X7_readFair.2.1 36 = .ok (.getfield 15, 3) := by decide +kernel
theorem dd_X7_readFair_39 : decode Y_X7_readFair.2.1 39 = .ok (.getfield 136, 3) := by decide +kernel
theorem dd_X7_readFair_42 : decode Y_X7_readFair.2.1 42 = .ok (.aload_n 0, 1) := by decide +kernel
theorem dd_X7_readFair_43 : decode Y_X7_readFair.2.1 43 = .ok (.getfield 9, 3) := by decide +kernel
theorem dd_X7_readFair_46 : decode Y_X7_readFair.2.1 46 = .ok (.iconst 0, 1) := by decide +kernel
theorem dd_X7_readFair_47 : decode Y_X7_readFair.2.1 47 = .ok (.sipush 200, 3) := by decide +kernel
theorem dd_X7_readFair_50 : decode Y_X7_readFair.2.1 50 = .ok (.invokevirtual 84, 3) := by decide +kernel
theorem dd_X7_readFair_53 : decode Y_X7_readFair.2.1 53 = .ok (.iastore, 1) := by decide +kernel
theorem dd_X7_readFair_54 : decode Y_X7_readFair.2.1 54 = .ok (.aload_n 0, 1) := by decide +kernel
theorem dd_X7_readFair_55 : decode Y_X7_readFair.2.1 55 = .ok (.getfield 9, 3) := by decide +kernel
theorem dd_X7_readFair_58 : decode Y_X7_readFair.2.1 58 = .ok (.aload_n 0, 1) := by decide +kernel
theorem dd_X7_readFair_59 : decode Y_X7_readFair.2.1 59 = .ok (.getfield 15, 3) := by decide +kernel
theorem dd_X7_readFair_62 : decode Y_X7_readFair.2.1 62 = .ok (.getfield 75, 3) := by decide +kernel
theorem dd_X7_readFair_65 : decode Y_X7_readFair.2.1 65 = .ok (.invokevirtual 120, 3) := by decide +kernel
theorem dd_X7_readFair_68 : decode Y_X7_readFair.2.1 68 = .ok (.ifCond .eq 13, 3) := by decide +kernel
theorem dd_X7_readFair_71 : decode Y_X7_readFair.2.1 71 = .ok (.aload_n 0, 1) := by decide +kernel
theorem dd_X7_readFair_72 : decode Y_X7_readFair.2.1 72 = .ok (.getfield 9, 3) := by decide +kernel
theorem dd_X7_readFair_75 : decode Y_X7_readFair.2.1 75 = .ok (.getfield 124, 3) := by decide +kernel
theorem dd_X7_readFair_78 : decode Y_X7_readFair.2.1 78 = .ok (.goto 4, 3) := by decide +kernel
theorem dd_X7_readFair_81 : decode Y_X7_readFair.2.1 81 = .ok (.iconst (-1), 1) := by decide +kernel
theorem dd_X7_readFair_82 : decode Y_X7_readFair.2.1 82 = .ok (.istore_n 1, 1) := by decide +kernel
theorem dd_X7_readFair_83 : decode Y_X7_readFair.2.1 83 = .ok (.aload_n 0, 1) := by decide +kernel
theorem dd_X7_readFair_84 : decode Y_X7_readFair.2.1 84 = .ok (.getfield 9, 3) := by decide +kernel
theorem dd_X7_readFair_87 : decode Y_X7_readFair.2.1 87 = .ok (.invokevirtual 78, 3) := by decide +kernel
theorem dd_X7_readFair_90 : decode Y_X7_readFair.2.1 90 = .ok (.aload_n 0, 1) := by decide +kernel
theorem dd_X7_readFair_91 : decode Y_X7_readFair.2.1 91 = .ok (.getfield 9, 3) := by decide +kernel
theorem dd_X7_readFair_94 : decode Y_X7_readFair.2.1 94 = .ok (.aload_n 0, 1) := by decide +kernel
theorem dd_X7_readFair_95 : decode Y_X7_readFair.2.1 95 = .ok (.getfield 15, 3) := by decide +kernel
theorem dd_X7_readFair_98 : decode Y_X7_readFair.2.1 98 = .ok (.getfield 75, 3) := by decide +kernel
theorem dd_X7_readFair_101 : decode Y_X7_readFair.2.1 101 = .ok (.invokevirtual 120, 3) := by decide +kernel
theorem dd_X7_readFair_104 : decode Y_X7_readFair.2.1 104 = .ok (.ifCond .eq 13, 3) := by decide +kernel
theorem dd_X7_readFair_107 : decode Y_X7_readFair.2.1 107 = .ok (.aload_n 0, 1) := by decide +kernel
theorem dd_X7_readFair_108 : decode Y_X7_readFair.2.1 108 = .ok (.getfield 9, 3) := by decide +kernel
theorem dd_X7_readFair_111 : decode Y_X7_readFair.2.1 111 = .ok (.getfield 124, 3) := by decide +kernel
theorem dd_X7_readFair_114 : decode Y_X7_readFair.2.1 114 = .ok (.goto 4, 3) := by decide +kernel
theorem dd_X7_readFair_117 : decode Y_X7_readFair.2.1 117 = .ok (.iconst (-1), 1) := by decide +kernel
theorem dd_X7_readFair_118 : decode Y_X7_readFair.2.1 118 = .ok (.istore_n 2, 1) := by decide +kernel
theorem dd_X7_readFair_119 : decode Y_X7_readFair.2.1 119 = .ok (.iload_n 1, 1) := by decide +kernel
theorem dd_X7_readFair_120 : decode Y_X7_readFair.2.1 120 = .ok (.iload_n 2, 1) := by decide +kernel
theorem dd_X7_readFair_121 : decode Y_X7_readFair.2.1 121 = .ok (.if_icmp .ne 11, 3) := by decide +kernel
theorem dd_X7_readFair_124 : decode Y_X7_readFair.2.1 124 = .ok (.aload_n 0, 1) := by decide +kernel
theorem dd_X7_readFair_125 : decode Y_X7_readFair.2.1 125 = .ok (.getfield 9, 3) := by decide +kernel
theorem dd_X7_readFair_128 : decode Y_X7_readFair.2.1 128 = .ok (.iconst 4, 1) := by decide +kernel
theorem dd_X7_readFair_129 : decode Y_X7_readFair.2.1 129 = .ok (.invokevirtual 72, 3) := by decide +kernel
theorem dd_X7_readFair_132 : decode Y_X7_readFair.2.1 132 = .ok (.aload_n 0, 1) := by decide +kernel
theorem dd_X7_readFair_133 : decode Y_X7_readFair.2.1 133 = .ok (.getfield 9, 3) := by decide +kernel
theorem dd_X7_readFair_136 : decode Y_X7_readFair.2.1 136 = .ok (.invokevirtual 78, 3) := by decide +kernel
theorem dd_X7_readFair_139 : decode Y_X7_readFair.2.1 139 = .ok (.aload_n 0, 1) := by decide +kernel
theorem dd_X7_readFair_140 : decode Y_X7_readFair.2.1 140 = .ok (.getfield 15, 3) := by decide +kernel
theorem dd_X7_readFair_143 : decode Y_X7_readFair.2.1 143 = .ok (.getfield 142, 3) := by decide +kernel
theorem dd_X7_readFair_146 : decode Y_X7_readFair.2.1 146 = .ok (.aload_n 0, 1) := by decide +kernel
theorem dd_X7_readFair_147 : decode Y_X7_readFair.2.1 147 = .ok (.getfield 15, 3) := by decide +kernel
theorem dd_X7_readFair_150 : decode Y_X7_readFair.2.1 150 = .ok (.getfield 136, 3) := by decide +kernel
theorem dd_X7_readFair_153 : decode Y_X7_readFair.2.1 153 = .ok (.iload_n 1, 1) := by decide +kernel
theorem dd_X7_readFair_154 : decode Y_X7_readFair.2.1 154 = .ok (.iastore, 1) := by decide +kernel
theorem dd_X7_readFair_155 : decode Y_X7_readFair.2.1 155 = .ok (.aload_n 0, 1) := by decide +kernel
theorem dd_X7_readFair_156 : decode Y_X7_readFair.2.1 156 = .ok (.getfield 15, 3) := by decide +kernel
theorem dd_X7_readFair_159 : decode Y_X7_readFair.2.1 159 = .ok (.getfield 145, 3) := by decide +kernel
theorem dd_X7_readFair_162 : decode Y_X7_readFair.2.1 162 = .ok (.aload_n 0, 1) := by decide +kernel
theorem dd_X7_readFair_163 : decode Y_X7_readFair.2.1 163 = .ok (.getfield 15, 3) := by decide +kernel
theorem dd_X7_readFair_166 : decode Y_X7_readFair.2.1 166 = .ok (.getfield 136, 3) := by decide +kernel
theorem dd_X7_readFair_169 : decode Y_X7_readFair.2.1 169 = .ok (.iload_n 2, 1) := by decide +kernel
theorem dd_X7_readFair_170 : decode Y_X7_readFair.2.1 170 = .ok (.iastore, 1) := by decide +kernel
theorem dd_X7_readFair_171 : decode Y_X7_readFair.2.1 171 = .ok (.aload_n 0, 1) := by decide +kernel
theorem dd_X7_readFair_172 : decode Y_X7_readFair.2.1 172 = .ok (.getfield 15, 3) := by decide +kernel
theorem dd_X7_readFair_175 : decode Y_X7_readFair.2.1 175 = .ok (.dup, 1) := by decide +kernel
theorem dd_X7_readFair_176 : decode Y_X7_readFair.2.1 176 = .ok (.getfield 136, 3) := by decide +kernel
theorem dd_X7_readFair_179 : decode Y_X7_readFair.2.1 179 = .ok (.iconst 1, 1) := by decide +kernel
theorem dd_X7_readFair_180 : decode Y_X7_readFair.2.1 180 = .ok (.iadd, 1) := by decide +kernel
theorem dd_X7_readFair_181 : decode Y_X7_readFair.2.1 181 = .ok (.putfield 136, 3) := by decide +kernel
theorem dd_X7_readFair_184 : decode Y_X7_readFair.2.1 184 = .ok (.return_, 1) := by decide +kernel
def F_X7_readFair (t : Nat) (M : zM) : zO := zit ((M (zgr t 1) 1) < 12) (zbV (F_X8_step (zgr t 0) M) (fun M1 => zbI (F_X8_takeNumber (zgr t 0) 0 200 M1) (fun r1 M2 => zck (zin (M1 (zgr t 1) 1) 12) (zst (zup M2 (zgr (zgr t 1) 11) (zix (M1 (zgr t 1) 1)) r1) (fun M3 => zbI (F_X8_standsTold (zgr t 0) (M3 (zgr t 1) 0) M3) (fun r2 M4 => zjo (fun (w1 : Int32) (M5 : zM) => zbV (F_X8_step (zgr t 0) M5) (fun M6 => zbI (F_X8_standsTold (zgr t 0) (M6 (zgr t 1) 0) M6) (fun r3 M7 => zjo (fun (w2 : Int32) (M8 : zM) => zjo (fun  (M10 : zM) => zbV (F_X8_step (zgr t 0) M10) (fun M11 => zck (zin (M11 (zgr t 1) 1) 12) (zst (zup M11 (zgr (zgr t 1) 12) (zix (M11 (zgr t 1) 1)) w1) (fun M12 => zck (zin (M12 (zgr t 1) 1) 12) (zst (zup M12 (zgr (zgr t 1) 13) (zix (M12 (zgr t 1) 1)) w2) (fun M13 => zst (zup M13 (zgr t 1) 1 ((M13 (zgr t 1) 1) + 1)) (fun M14 => zV M14))))))) (fun (k3 : zM → zO) => zit (w1 = w2) (zbV (F_X8_refuse (zgr t 0) 4 M8) (fun M9 => k3 M9)) (k3 M8))) (fun (k2 : Int32 → zM → zO) => zit (r3 = 0) (k2 (-1) M7) (k2 (M7 (zgr t 0) 6) M7))))) (fun (k1 : Int32 → zM → zO) => zit (r2 = 0) (k1 (-1) M4) (k1 (M4 (zgr t 0) 6) M4)))))))) (zbV (F_X8_refuse (zgr t 0) 2 M) (fun M15 => zV M15))
set_option maxHeartbeats 1000000 in
set_option maxRecDepth 20000 in
theorem ct_X7_readFair (l : Launch) (hl : l.stackTraces = false) (G : zG) (t : Nat) (ht : zsh t = 7) (M : zM) : zMt l G Y_X7_readFair 14 [.ref (G.2.1 + t)] M (F_X7_readFair t M) := by
  refine zMt_of (by decide +kernel) (Nat.le_of_ble_eq_true rfl) ?_
  show zEv l G Y_X7_readFair 14 0 0 [(0, .ref (G.2.1 + t))] [] M (zit ((M (zgr t 1) 1) < 12) (zbV (F_X8_step (zgr t 0) M) (fun M1 => zbI (F_X8_takeNumber (zgr t 0) 0 200 M1) (fun r1 M2 => zck (zin (M1 (zgr t 1) 1) 12) (zst (zup M2 (zgr (zgr t 1) 11) (zix (M1 (zgr t 1) 1)) r1) (fun M3 => zbI (F_X8_standsTold (zgr t 0) (M3 (zgr t 1) 0) M3) (fun r2 M4 => zjo (fun (w1 : Int32) (M5 : zM) => zbV (F_X8_step (zgr t 0) M5) (fun M6 => zbI (F_X8_standsTold (zgr t 0) (M6 (zgr t 1) 0) M6) (fun r3 M7 => zjo (fun (w2 : Int32) (M8 : zM) => zjo (fun  (M10 : zM) => zbV (F_X8_step (zgr t 0) M10) (fun M11 => zck (zin (M11 (zgr t 1) 1) 12) (zst (zup M11 (zgr (zgr t 1) 12) (zix (M11 (zgr t 1) 1)) w1) (fun M12 => zck (zin (M12 (zgr t 1) 1) 12) (zst (zup M12 (zgr (zgr t 1) 13) (zix (M12 (zgr t 1) 1)) w2) (fun M13 => zst (zup M13 (zgr t 1) 1 ((M13 (zgr t 1) 1) + 1)) (fun M14 => zV M14))))))) (fun (k3 : zM → zO) => zit (w1 = w2) (zbV (F_X8_refuse (zgr t 0) 4 M8) (fun M9 => k3 M9)) (k3 M8))) (fun (k2 : Int32 → zM → zO) => zit (r3 = 0) (k2 (-1) M7) (k2 (M7 (zgr t 0) 6) M7))))) (fun (k1 : Int32 → zM → zO) => zit (r2 = 0) (k1 (-1) M4) (k1 (M4 (zgr t 0) 6) M4)))))))) (zbV (F_X8_refuse (zgr t 0) 2 M) (fun M15 => zV M15)))
  refine ev_aload_n dd_X7_readFair_0 0 rfl ?_
  refine ev_getR gf_RX7_15 dd_X7_readFair_1 ht (by decide) ?_
  refine ev_getI gf_RX7_136 dd_X7_readFair_4 (zg_7_1 ht) (by decide) ?_
  refine ev_bipush (v := 12) dd_X7_readFair_7 (by decide) ?_
  refine ev_icmp_lt 21 dd_X7_readFair_9 (by decide) ?_ ?_
  · refine ev_aload_n dd_X7_readFair_21 0 rfl ?_
    refine ev_getR gf_RX7_9 dd_X7_readFair_22 ht (by decide) ?_
    refine ev_callVV (As := []) cl_RX7_78 (ct_X8_step l hl G (zgr t 0) (zg_7_0 ht) M) dd_X7_readFair_25 (zg_7_0 ht) (by decide) (Nat.le_of_ble_eq_true rfl) (Nat.le_of_ble_eq_true rfl) rfl rfl (fun M1 => ?_)
    refine ev_aload_n dd_X7_readFair_28 0 rfl ?_
    refine ev_getR gf_RX7_15 dd_X7_readFair_29 ht (by decide) ?_
    refine ev_getR gf_RX7_139 dd_X7_readFair_32 (zg_7_1 ht) (by decide) ?_
    refine ev_aload_n dd_X7_readFair_35 0 rfl ?_
    refine ev_getR gf_RX7_15 dd_X7_readFair_36 ht (by decide) ?_
    refine ev_getI gf_RX7_136 dd_X7_readFair_39 (zg_7_1 ht) (by decide) ?_
    refine ev_aload_n dd_X7_readFair_42 0 rfl ?_
    refine ev_getR gf_RX7_9 dd_X7_readFair_43 ht (by decide) ?_
    refine ev_iconst (v := 0) dd_X7_readFair_46 (by decide) ?_
    refine ev_sipush (v := 200) dd_X7_readFair_47 (by decide) ?_
    refine ev_callVI (As := [.int 0, .int 200]) cl_RX7_84 (ct_X8_takeNumber l hl G (zgr t 0) (zg_7_0 ht) 0 200 M1) dd_X7_readFair_50 (zg_7_0 ht) (by decide) (Nat.le_of_ble_eq_true rfl) (Nat.le_of_ble_eq_true rfl) rfl rfl (fun r1 M2 => ?_)
    refine ev_iast dd_X7_readFair_53 ((zg_6_11 (zg_7_1 ht)).1) ((zg_6_11 (zg_7_1 ht)).2) ?_
    refine ev_st (fun M3 => ?_)
    refine ev_aload_n dd_X7_readFair_54 0 rfl ?_
    refine ev_getR gf_RX7_9 dd_X7_readFair_55 ht (by decide) ?_
    refine ev_aload_n dd_X7_readFair_58 0 rfl ?_
    refine ev_getR gf_RX7_15 dd_X7_readFair_59 ht (by decide) ?_
    refine ev_getI gf_RX7_75 dd_X7_readFair_62 (zg_7_1 ht) (by decide) ?_
    refine ev_callVI (As := [.int (M3 (zgr t 1) 0)]) cl_RX7_120 (ct_X8_standsTold l hl G (zgr t 0) (zg_7_0 ht) (M3 (zgr t 1) 0) M3) dd_X7_readFair_65 (zg_7_0 ht) (by decide) (Nat.le_of_ble_eq_true rfl) (Nat.le_of_ble_eq_true rfl) rfl rfl (fun r2 M4 => ?_)
    refine ev_jo (fun (k1 : Int32 → zM → zO) => ∀ (w1 : Int32) (M5 : zM), zEv l G Y_X7_readFair 14 0 82 [(0, .ref (G.2.1 + t))] [.int w1] M5 (k1 w1 M5)) ?_ (fun k1 hk1 => ?_)
    · intro w1 M5
      refine ev_istore_n (i := 1) (lv' := [(0, .ref (G.2.1 + t)), (1, .int w1)]) [1, 0] dd_X7_readFair_82 rfl (by decide) rfl ?_
      refine ev_aload_n dd_X7_readFair_83 0 rfl ?_
      refine ev_getR gf_RX7_9 dd_X7_readFair_84 ht (by decide) ?_
      refine ev_callVV (As := []) cl_RX7_78 (ct_X8_step l hl G (zgr t 0) (zg_7_0 ht) M5) dd_X7_readFair_87 (zg_7_0 ht) (by decide) (Nat.le_of_ble_eq_true rfl) (Nat.le_of_ble_eq_true rfl) rfl rfl (fun M6 => ?_)
      refine ev_aload_n dd_X7_readFair_90 0 rfl ?_
      refine ev_getR gf_RX7_9 dd_X7_readFair_91 ht (by decide) ?_
      refine ev_aload_n dd_X7_readFair_94 0 rfl ?_
      refine ev_getR gf_RX7_15 dd_X7_readFair_95 ht (by decide) ?_
      refine ev_getI gf_RX7_75 dd_X7_readFair_98 (zg_7_1 ht) (by decide) ?_
      refine ev_callVI (As := [.int (M6 (zgr t 1) 0)]) cl_RX7_120 (ct_X8_standsTold l hl G (zgr t 0) (zg_7_0 ht) (M6 (zgr t 1) 0) M6) dd_X7_readFair_101 (zg_7_0 ht) (by decide) (Nat.le_of_ble_eq_true rfl) (Nat.le_of_ble_eq_true rfl) rfl rfl (fun r3 M7 => ?_)
      refine ev_jo (fun (k2 : Int32 → zM → zO) => ∀ (w2 : Int32) (M8 : zM), zEv l G Y_X7_readFair 14 0 118 [(0, .ref (G.2.1 + t)), (1, .int w1)] [.int w2] M8 (k2 w2 M8)) ?_ (fun k2 hk2 => ?_)
      · intro w2 M8
        refine ev_istore_n (i := 2) (lv' := [(0, .ref (G.2.1 + t)), (1, .int w1), (2, .int w2)]) [1, 2, 0] dd_X7_readFair_118 rfl (by decide) rfl ?_
        refine ev_iload_n dd_X7_readFair_119 1 rfl ?_
        refine ev_iload_n dd_X7_readFair_120 2 rfl ?_
        refine ev_jo (fun (k3 : zM → zO) => ∀  (M10 : zM), zEv l G Y_X7_readFair 14 0 132 [(0, .ref (G.2.1 + t)), (1, .int w1), (2, .int w2)] [] M10 (k3 M10)) ?_ (fun k3 hk3 => ?_)
        · intro M10
          refine ev_aload_n dd_X7_readFair_132 0 rfl ?_
          refine ev_getR gf_RX7_9 dd_X7_readFair_133 ht (by decide) ?_
          refine ev_callVV (As := []) cl_RX7_78 (ct_X8_step l hl G (zgr t 0) (zg_7_0 ht) M10) dd_X7_readFair_136 (zg_7_0 ht) (by decide) (Nat.le_of_ble_eq_true rfl) (Nat.le_of_ble_eq_true rfl) rfl rfl (fun M11 => ?_)
          refine ev_aload_n dd_X7_readFair_139 0 rfl ?_
          refine ev_getR gf_RX7_15 dd_X7_readFair_140 ht (by decide) ?_
          refine ev_getR gf_RX7_142 dd_X7_readFair_143 (zg_7_1 ht) (by decide) ?_
          refine ev_aload_n dd_X7_readFair_146 0 rfl ?_
          refine ev_getR gf_RX7_15 dd_X7_readFair_147 ht (by decide) ?_
          refine ev_getI gf_RX7_136 dd_X7_readFair_150 (zg_7_1 ht) (by decide) ?_
          refine ev_iload_n dd_X7_readFair_153 1 rfl ?_
          refine ev_lv (lv' := [(0, .ref (G.2.1 + t)), (2, .int w2)]) [0, 2] rfl ?_
          refine ev_iast dd_X7_readFair_154 ((zg_6_12 (zg_7_1 ht)).1) ((zg_6_12 (zg_7_1 ht)).2) ?_
          refine ev_st (fun M12 => ?_)
          refine ev_aload_n dd_X7_readFair_155 0 rfl ?_
          refine ev_getR gf_RX7_15 dd_X7_readFair_156 ht (by decide) ?_
          refine ev_getR gf_RX7_145 dd_X7_readFair_159 (zg_7_1 ht) (by decide) ?_
          refine ev_aload_n dd_X7_readFair_162 0 rfl ?_
          refine ev_getR gf_RX7_15 dd_X7_readFair_163 ht (by decide) ?_
          refine ev_getI gf_RX7_136 dd_X7_readFair_166 (zg_7_1 ht) (by decide) ?_
          refine ev_iload_n dd_X7_readFair_169 1 rfl ?_
          refine ev_lv (lv' := [(0, .ref (G.2.1 + t))]) [0] rfl ?_
          refine ev_iast dd_X7_readFair_170 ((zg_6_13 (zg_7_1 ht)).1) ((zg_6_13 (zg_7_1 ht)).2) ?_
          refine ev_st (fun M13 => ?_)
          refine ev_aload_n dd_X7_readFair_171 0 rfl ?_
          refine ev_lv (lv' := []) [] rfl ?_
          refine ev_getR gf_RX7_15 dd_X7_readFair_172 ht (by decide) ?_
          refine ev_dup dd_X7_readFair_175 rfl ?_
          refine ev_getI gf_RX7_136 dd_X7_readFair_176 (zg_7_1 ht) (by decide) ?_
          refine ev_iconst (v := 1) dd_X7_readFair_179 (by decide) ?_
          refine ev_iadd dd_X7_readFair_180 ?_
          refine ev_putI gw_RX7_136 dd_X7_readFair_181 (zg_7_1 ht) (by decide) ?_
          refine ev_st (fun M14 => ?_)
          exact ev_vret dd_X7_readFair_184 rfl (Nat.le_of_ble_eq_true rfl) rfl
        · refine ev_icmp_ne 132 dd_X7_readFair_121 (by decide) ?_ ?_
          · exact hk3 _
          · refine ev_aload_n dd_X7_readFair_124 0 rfl ?_
            refine ev_getR gf_RX7_9 dd_X7_readFair_125 ht (by decide) ?_
            refine ev_iconst (v := 4) dd_X7_readFair_128 (by decide) ?_
            refine ev_callVV (As := [.int 4]) cl_RX7_72 (ct_X8_refuse l hl G (zgr t 0) (zg_7_0 ht) 4 M8) dd_X7_readFair_129 (zg_7_0 ht) (by decide) (Nat.le_of_ble_eq_true rfl) (Nat.le_of_ble_eq_true rfl) rfl rfl (fun M9 => ?_)
            exact hk3 _
      · refine ev_if_eq 117 dd_X7_readFair_104 (by decide) ?_ ?_
        · refine ev_iconst (v := (-1)) dd_X7_readFair_117 (by decide) ?_
          exact hk2 _ _
        · refine ev_aload_n dd_X7_readFair_107 0 rfl ?_
          refine ev_getR gf_RX7_9 dd_X7_readFair_108 ht (by decide) ?_
          refine ev_getI gf_RX7_124 dd_X7_readFair_111 (zg_7_0 ht) (by decide) ?_
          refine ev_goto 118 dd_X7_readFair_114 (by decide) ?_
          exact hk2 _ _
    · refine ev_if_eq 81 dd_X7_readFair_68 (by decide) ?_ ?_
      · refine ev_iconst (v := (-1)) dd_X7_readFair_81 (by decide) ?_
        exact hk1 _ _
      · refine ev_aload_n dd_X7_readFair_71 0 rfl ?_
        refine ev_getR gf_RX7_9 dd_X7_readFair_72 ht (by decide) ?_
        refine ev_getI gf_RX7_124 dd_X7_readFair_75 (zg_7_0 ht) (by decide) ?_
        refine ev_goto 82 dd_X7_readFair_78 (by decide) ?_
        exact hk1 _ _
  · refine ev_aload_n dd_X7_readFair_12 0 rfl ?_
    refine ev_lv (lv' := []) [] rfl ?_
    refine ev_getR gf_RX7_9 dd_X7_readFair_13 ht (by decide) ?_
    refine ev_iconst (v := 2) dd_X7_readFair_16 (by decide) ?_
    refine ev_callVV (As := [.int 2]) cl_RX7_72 (ct_X8_refuse l hl G (zgr t 0) (zg_7_0 ht) 2 M) dd_X7_readFair_17 (zg_7_0 ht) (by decide) (Nat.le_of_ble_eq_true rfl) (Nat.le_of_ble_eq_true rfl) rfl rfl (fun M15 => ?_)
    exact ev_vret dd_X7_readFair_20 rfl (Nat.le_of_ble_eq_true rfl) rfl
/-! X7_readLaw -/
theorem dd_X7_readLaw_0 : decode Y_X7_readLaw.2.1 0 = .ok (.aload_n 0, 1) := by decide +kernel
theorem dd_X7_readLaw_1 : decode Y_X7_readLaw.2.1 1 = .ok (.getfield 15, 3) := by decide +kernel
theorem dd_X7_readLaw_4 : decode Y_X7_readLaw.2.1 4 = .ok (.getfield 154, 3) := by decide +kernel
theorem dd_X7_readLaw_7 : decode Y_X7_readLaw.2.1 7 = .ok (.getfield 157, 3) := by decide +kernel
theorem dd_X7_readLaw_10 : decode Y_X7_readLaw.2.1 10 = .ok (.ifCond .eq 11, 3) := by decide +kernel
theorem dd_X7_readLaw_13 : decode Y_X7_readLaw.2.1 13 = .ok (.aload_n 0, 1) := by decide +kernel
theorem dd_X7_readLaw_14 : decode Y_X7_readLaw.2.1 14 = .ok (.getfield 9, 3) := by decide +kernel
theorem dd_X7_readLaw_17 : decode Y_X7_readLaw.2.1 17 = .ok (.iconst 5, 1) := by decide +kernel
theorem dd_X7_readLaw_18 : decode Y_X7_readLaw.2.1 18 = .ok (.invokevirtual 72, 3) := by decide +kernel
theorem dd_X7_readLaw_21 : decode Y_X7_readLaw.2.1 21 = .ok (.aload_n 0, 1) := by decide +kernel
theorem dd_X7_readLaw_22 : decode Y_X7_readLaw.2.1 22 = .ok (.getfield 9, 3) := by decide +kernel
theorem dd_X7_readLaw_25 : decode Y_X7_readLaw.2.1 25 = .ok (.invokevirtual 78, 3) := by decide +kernel
theorem dd_X7_readLaw_28 : decode Y_X7_readLaw.2.1 28 = .ok (.aload_n 0, 1) := by decide +kernel
theorem dd_X7_readLaw_29 : decode Y_X7_readLaw.2.1 29 = .ok (.getfield 15, 3) := by decide +kernel
theorem dd_X7_readLaw_32 : decode Y_X7_readLaw.2.1 32 = .ok (.getfield 154, 3) := by decide +kernel
theorem dd_X7_readLaw_35 : decode Y_X7_readLaw.2.1 35 = .ok (.aload_n 0, 1) := by decide +kernel
theorem dd_X7_readLaw_36 : decode Y_X7_readLaw.2.1 36 = .ok (.getfield 9, 3) := by decide +kernel
theorem dd_X7_readLaw_39 : decode Y_X7_readLaw.2.1 39 = .ok (.iconst 0, 1) := by decide +kernel
theorem dd_X7_readLaw_40 : decode Y_X7_readLaw.2.1 40 = .ok (.invokevirtual 162, 3) := by decide +kernel
theorem dd_X7_readLaw_43 : decode Y_X7_readLaw.2.1 43 = .ok (.aload_n 0, 1) := by decide +kernel
theorem dd_X7_readLaw_44 : decode Y_X7_readLaw.2.1 44 = .ok (.getfield 15, 3) := by decide +kernel
theorem dd_X7_readLaw_47 : decode Y_X7_readLaw.2.1 47 = .ok (.getfield 154, 3) := by decide +kernel
theorem dd_X7_readLaw_50 : decode Y_X7_readLaw.2.1 50 = .ok (.iconst 1, 1) := by decide +kernel
theorem dd_X7_readLaw_51 : decode Y_X7_readLaw.2.1 51 = .ok (.putfield 157, 3) := by decide +kernel
theorem dd_X7_readLaw_54 : decode Y_X7_readLaw.2.1 54 = .ok (.return_, 1) := by decide +kernel
def F_X7_readLaw (t : Nat) (M : zM) : zO := zjo (fun  (M2 : zM) => zbV (F_X8_step (zgr t 0) M2) (fun M3 => zbV (Fr_X0_readExpr 9 (zgr (zgr t 1) 5) (zgr t 0) 0 M3) (fun M4 => zck (zbo 1) (zst (zup M4 (zgr (zgr t 1) 5) 4 1) (fun M5 => zV M5))))) (fun (k1 : zM → zO) => zit ((M (zgr (zgr t 1) 5) 4) = 0) (k1 M) (zbV (F_X8_refuse (zgr t 0) 5 M) (fun M1 => k1 M1)))
set_option maxHeartbeats 1000000 in
set_option maxRecDepth 20000 in
theorem ct_X7_readLaw (l : Launch) (hl : l.stackTraces = false) (G : zG) (t : Nat) (ht : zsh t = 7) (M : zM) : zMt l G Y_X7_readLaw 181 [.ref (G.2.1 + t)] M (F_X7_readLaw t M) := by
  refine zMt_of (by decide +kernel) (Nat.le_of_ble_eq_true rfl) ?_
  show zEv l G Y_X7_readLaw 181 0 0 [(0, .ref (G.2.1 + t))] [] M (zjo (fun  (M2 : zM) => zbV (F_X8_step (zgr t 0) M2) (fun M3 => zbV (Fr_X0_readExpr 9 (zgr (zgr t 1) 5) (zgr t 0) 0 M3) (fun M4 => zck (zbo 1) (zst (zup M4 (zgr (zgr t 1) 5) 4 1) (fun M5 => zV M5))))) (fun (k1 : zM → zO) => zit ((M (zgr (zgr t 1) 5) 4) = 0) (k1 M) (zbV (F_X8_refuse (zgr t 0) 5 M) (fun M1 => k1 M1))))
  refine ev_aload_n dd_X7_readLaw_0 0 rfl ?_
  refine ev_getR gf_RX7_15 dd_X7_readLaw_1 ht (by decide) ?_
  refine ev_getR gf_RX7_154 dd_X7_readLaw_4 (zg_7_1 ht) (by decide) ?_
  refine ev_getI gf_RX7_157 dd_X7_readLaw_7 (zg_6_5 (zg_7_1 ht)) (by decide) ?_
  refine ev_jo (fun (k1 : zM → zO) => ∀  (M2 : zM), zEv l G Y_X7_readLaw 181 0 21 [(0, .ref (G.2.1 + t))] [] M2 (k1 M2)) ?_ (fun k1 hk1 => ?_)
  · intro M2
    refine ev_aload_n dd_X7_readLaw_21 0 rfl ?_
    refine ev_getR gf_RX7_9 dd_X7_readLaw_22 ht (by decide) ?_
    refine ev_callVV (As := []) cl_RX7_78 (ct_X8_step l hl G (zgr t 0) (zg_7_0 ht) M2) dd_X7_readLaw_25 (zg_7_0 ht) (by decide) (Nat.le_of_ble_eq_true rfl) (Nat.le_of_ble_eq_true rfl) rfl rfl (fun M3 => ?_)
    refine ev_aload_n dd_X7_readLaw_28 0 rfl ?_
    refine ev_getR gf_RX7_15 dd_X7_readLaw_29 ht (by decide) ?_
    refine ev_getR gf_RX7_154 dd_X7_readLaw_32 (zg_7_1 ht) (by decide) ?_
    refine ev_aload_n dd_X7_readLaw_35 0 rfl ?_
    refine ev_getR gf_RX7_9 dd_X7_readLaw_36 ht (by decide) ?_
    refine ev_iconst (v := 0) dd_X7_readLaw_39 (by decide) ?_
    refine ev_callVV (As := [.ref (G.2.1 + (zgr t 0)), .int 0]) cl_RX7_162 (cr_X0_readExpr l hl G 9 (zgr (zgr t 1) 5) (zg_6_5 (zg_7_1 ht)) (zgr t 0) (zg_7_0 ht) 0 M3) dd_X7_readLaw_40 (zg_6_5 (zg_7_1 ht)) (by decide) (Nat.le_of_ble_eq_true rfl) (Nat.le_of_ble_eq_true rfl) rfl rfl (fun M4 => ?_)
    refine ev_aload_n dd_X7_readLaw_43 0 rfl ?_
    refine ev_lv (lv' := []) [] rfl ?_
    refine ev_getR gf_RX7_15 dd_X7_readLaw_44 ht (by decide) ?_
    refine ev_getR gf_RX7_154 dd_X7_readLaw_47 (zg_7_1 ht) (by decide) ?_
    refine ev_iconst (v := 1) dd_X7_readLaw_50 (by decide) ?_
    refine ev_putZ gw_RX7_157 dd_X7_readLaw_51 (zg_6_5 (zg_7_1 ht)) (by decide) ?_
    refine ev_st (fun M5 => ?_)
    exact ev_vret dd_X7_readLaw_54 rfl (Nat.le_of_ble_eq_true rfl) rfl
  · refine ev_if_eq 21 dd_X7_readLaw_10 (by decide) ?_ ?_
    · exact hk1 _
    · refine ev_aload_n dd_X7_readLaw_13 0 rfl ?_
      refine ev_getR gf_RX7_9 dd_X7_readLaw_14 ht (by decide) ?_
      refine ev_iconst (v := 5) dd_X7_readLaw_17 (by decide) ?_
      refine ev_callVV (As := [.int 5]) cl_RX7_72 (ct_X8_refuse l hl G (zgr t 0) (zg_7_0 ht) 5 M) dd_X7_readLaw_18 (zg_7_0 ht) (by decide) (Nat.le_of_ble_eq_true rfl) (Nat.le_of_ble_eq_true rfl) rfl rfl (fun M1 => ?_)
      exact hk1 _
/-! X9_alike -/
theorem dd_X9_alike_0 : decode Y_X9_alike.2.1 0 = .ok (.aload_n 0, 1) := by decide +kernel
theorem dd_X9_alike_1 : decode Y_X9_alike.2.1 1 = .ok (.getfield 15, 3) := by decide +kernel
theorem dd_X9_alike_4 : decode Y_X9_alike.2.1 4 = .ok (.iload_n 1, 1) := by decide +kernel
theorem dd_X9_alike_5 : decode Y_X9_alike.2.1 5 = .ok (.iaload, 1) := by decide +kernel
theorem dd_X9_alike_6 : decode Y_X9_alike.2.1 6 = .ok (.aload_n 0, 1) := by decide +kernel
theorem dd_X9_alike_7 : decode Y_X9_alike.2.1 7 = .ok (.getfield 15, 3) := by decide +kernel
theorem dd_X9_alike_10 : decode Y_X9_alike.2.1 10 = .ok (.iload_n 2, 1) := by decide +kernel
theorem dd_X9_alike_11 : decode Y_X9_alike.2.1 11 = .ok (.iaload, 1) := by decide +kernel
theorem dd_X9_alike_12 : decode Y_X9_alike.2.1 12 = .ok (.if_icmp .ne 24, 3) := by decide +kernel
theorem dd_X9_alike_15 : decode Y_X9_alike.2.1 15 = .ok (.aload_n 0, 1) := by decide +kernel
theorem dd_X9_alike_16 : decode Y_X9_alike.2.1 16 = .ok (.iload_n 1, 1) := by decide +kernel
theorem dd_X9_alike_17 : decode Y_X9_alike.2.1 17 = .ok (.iconst 0, 1) := by decide +kernel
theorem dd_X9_alike_18 : decode Y_X9_alike.2.1 18 = .ok (.iload_n 2, 1) := by decide +kernel
theorem dd_X9_alike_19 : decode Y_X9_alike.2.1 19 = .ok (.iconst 0, 1) := by decide +kernel
theorem dd_X9_alike_20 : decode Y_X9_alike.2.1 20 = .ok (.aload_n 0, 1) := by decide +kernel
theorem dd_X9_alike_21 : decode Y_X9_alike.2.1 21 = .ok (.getfield 15, 3) := by decide +kernel
theorem dd_X9_alike_24 : decode Y_X9_alike.2.1 24 = .ok (.iload_n 1, 1) := by decide +kernel
theorem dd_X9_alike_25 : decode Y_X9_alike.2.1 25 = .ok (.iaload, 1) := by decide +kernel
theorem dd_X9_alike_26 : decode Y_X9_alike.2.1 26 = .ok (.invokevirtual 57, 3) := by decide +kernel
theorem dd_X9_alike_29 : decode Y_X9_alike.2.1 29 = .ok (.ifCond .eq 7, 3) := by decide +kernel
theorem dd_X9_alike_32 : decode Y_X9_alike.2.1 32 = .ok (.iconst 1, 1) := by decide +kernel
theorem dd_X9_alike_33 : decode Y_X9_alike.2.1 33 = .ok (.goto 4, 3) := by decide +kernel
theorem dd_X9_alike_36 : decode Y_X9_alike.2.1 36 = .ok (.iconst 0, 1) := by decide +kernel
theorem dd_X9_alike_37 : decode Y_X9_alike.2.1 37 = .ok (.ireturn, 1) := by decide +kernel
def F_X9_alike (t : Nat) (a1 : Int32) (a2 : Int32) (M : zM) : zO := zck (zin a1 8) (zck (zin a2 8) (zjo (fun (w1 : Int32) (M3 : zM) => zck (zbo w1) (zI w1 M3)) (fun (k1 : Int32 → zM → zO) => zjo (fun  (M2 : zM) => k1 0 M2) (fun (k2 : zM → zO) => zit ((M (zgr t 1) (zix a1)) = (M (zgr t 1) (zix a2))) (zck (zin a1 8) (zbI (F_X9_runsAlike t a1 0 a2 0 (M (zgr t 1) (zix a1)) M) (fun r1 M1 => zit (r1 = 0) (k2 M1) (k1 1 M1)))) (k2 M)))))
set_option maxHeartbeats 1000000 in
set_option maxRecDepth 20000 in
theorem ct_X9_alike (l : Launch) (hl : l.stackTraces = false) (G : zG) (t : Nat) (ht : zsh t = 9) (a1 : Int32) (a2 : Int32) (M : zM) : zMt l G Y_X9_alike 3 [.ref (G.2.1 + t), .int a1, .int a2] M (F_X9_alike t a1 a2 M) := by
  refine zMt_of (by decide +kernel) (Nat.le_of_ble_eq_true rfl) ?_
  show zEv l G Y_X9_alike 3 0 0 [(0, .ref (G.2.1 + t)), (1, .int a1), (2, .int a2)] [] M (zck (zin a1 8) (zck (zin a2 8) (zjo (fun (w1 : Int32) (M3 : zM) => zck (zbo w1) (zI w1 M3)) (fun (k1 : Int32 → zM → zO) => zjo (fun  (M2 : zM) => k1 0 M2) (fun (k2 : zM → zO) => zit ((M (zgr t 1) (zix a1)) = (M (zgr t 1) (zix a2))) (zck (zin a1 8) (zbI (F_X9_runsAlike t a1 0 a2 0 (M (zgr t 1) (zix a1)) M) (fun r1 M1 => zit (r1 = 0) (k2 M1) (k1 1 M1)))) (k2 M))))))
  refine ev_aload_n dd_X9_alike_0 0 rfl ?_
  refine ev_getR gf_RX9_15 dd_X9_alike_1 ht (by decide) ?_
  refine ev_iload_n dd_X9_alike_4 1 rfl ?_
  refine ev_iald dd_X9_alike_5 ((zg_9_1 ht).1) ((zg_9_1 ht).2) ?_
  refine ev_aload_n dd_X9_alike_6 0 rfl ?_
  refine ev_getR gf_RX9_15 dd_X9_alike_7 ht (by decide) ?_
  refine ev_iload_n dd_X9_alike_10 2 rfl ?_
  refine ev_iald dd_X9_alike_11 ((zg_9_1 ht).1) ((zg_9_1 ht).2) ?_
  refine ev_jo (fun (k1 : Int32 → zM → zO) => ∀ (w1 : Int32) (M3 : zM), zEv l G Y_X9_alike 3 0 37 [] [.int w1] M3 (k1 w1 M3)) ?_ (fun k1 hk1 => ?_)
  · intro w1 M3
    exact ev_zret dd_X9_alike_37 rfl (Nat.le_of_ble_eq_true rfl) rfl
  · refine ev_jo (fun (k2 : zM → zO) => ∀  (M2 : zM), zEv l G Y_X9_alike 3 0 36 [] [] M2 (k2 M2)) ?_ (fun k2 hk2 => ?_)
    · intro M2
      refine ev_iconst (v := 0) dd_X9_alike_36 (by decide) ?_
      exact hk1 _ _
    · refine ev_icmp_ne 36 dd_X9_alike_12 (by decide) ?_ ?_
      · refine ev_lv (lv' := []) [] rfl ?_
        exact hk2 _
      · refine ev_aload_n dd_X9_alike_15 0 rfl ?_
        refine ev_iload_n dd_X9_alike_16 1 rfl ?_
        refine ev_iconst (v := 0) dd_X9_alike_17 (by decide) ?_
        refine ev_iload_n dd_X9_alike_18 2 rfl ?_
        refine ev_lv (lv' := [(0, .ref (G.2.1 + t)), (1, .int a1)]) [0, 1] rfl ?_
        refine ev_iconst (v := 0) dd_X9_alike_19 (by decide) ?_
        refine ev_aload_n dd_X9_alike_20 0 rfl ?_
        refine ev_lv (lv' := [(1, .int a1)]) [1] rfl ?_
        refine ev_getR gf_RX9_15 dd_X9_alike_21 ht (by decide) ?_
        refine ev_iload_n dd_X9_alike_24 0 rfl ?_
        refine ev_lv (lv' := []) [] rfl ?_
        refine ev_iald dd_X9_alike_25 ((zg_9_1 ht).1) ((zg_9_1 ht).2) ?_
        refine ev_callVI (As := [.int a1, .int 0, .int a2, .int 0, .int (M (zgr t 1) (zix a1))]) cl_RX9_57 (ct_X9_runsAlike l hl G t ht a1 0 a2 0 (M (zgr t 1) (zix a1)) M) dd_X9_alike_26 ht (by decide) (Nat.le_of_ble_eq_true rfl) (Nat.le_of_ble_eq_true rfl) rfl rfl (fun r1 M1 => ?_)
        refine ev_if_eq 36 dd_X9_alike_29 (by decide) ?_ ?_
        · exact hk2 _
        · refine ev_iconst (v := 1) dd_X9_alike_32 (by decide) ?_
          refine ev_goto 37 dd_X9_alike_33 (by decide) ?_
          exact hk1 _ _
/-! X9_put -/
theorem dd_X9_put_0 : decode Y_X9_put.2.1 0 = .ok (.aload_n 2, 1) := by decide +kernel
theorem dd_X9_put_1 : decode Y_X9_put.2.1 1 = .ok (.invokevirtual 38, 3) := by decide +kernel
theorem dd_X9_put_4 : decode Y_X9_put.2.1 4 = .ok (.bipush 9, 2) := by decide +kernel
theorem dd_X9_put_6 : decode Y_X9_put.2.1 6 = .ok (.invokestatic 44, 3) := by decide +kernel
theorem dd_X9_put_9 : decode Y_X9_put.2.1 9 = .ok (.istore_n 3, 1) := by decide +kernel
theorem dd_X9_put_10 : decode Y_X9_put.2.1 10 = .ok (.iconst 0, 1) := by decide +kernel
theorem dd_X9_put_11 : decode Y_X9_put.2.1 11 = .ok (.istore 4, 2) := by decide +kernel
theorem dd_X9_put_13 : decode Y_X9_put.2.1 13 = .ok (.iload 4, 2) := by decide +kernel
theorem dd_X9_put_15 : decode Y_X9_put.2.1 15 = .ok (.iload_n 3, 1) := by decide +kernel
theorem dd_X9_put_16 : decode Y_X9_put.2.1 16 = .ok (.if_icmp .ge 38, 3) := by decide +kernel
theorem dd_X9_put_19 : decode Y_X9_put.2.1 19 = .ok (.aload_n 0, 1) := by decide +kernel
theorem dd_X9_put_20 : decode Y_X9_put.2.1 20 = .ok (.getfield 9, 3) := by decide +kernel
theorem dd_X9_put_23 : decode Y_X9_put.2.1 23 = .ok (.iload_n 1, 1) := by decide +kernel
theorem dd_X9_put_24 : decode Y_X9_put.2.1 24 = .ok (.bipush 9, 2) := by decide +kernel
theorem dd_X9_put_26 : decode Y_X9_put.2.1 26 = .ok (.imul, 1) := by decide +kernel
theorem dd_X9_put_27 : decode Y_X9_put.2.1 27 = .ok (.iload 4, 2) := by decide +kernel
theorem dd_X9_put_29 : decode Y_X9_put.2.1 29 = .ok (.iadd, 1) := by decide +kernel
theorem dd_X9_put_30 : decode Y_X9_put.2.1 30 = .ok (.aload_n 2, 1) := by decide +kernel
theorem dd_X9_put_31 : decode Y_X9_put.2.1 31 = .ok (.aload_n 2, 1) := by decide +kernel
theorem dd_X9_put_32 : decode Y_X9_put.2.1 32 = .ok (.getfield 50, 3) := by decide +kernel
theorem dd_X9_put_35 : decode Y_X9_put.2.1 35 = .ok (.iload 4, 2) := by decide +kernel
theorem dd_X9_put_37 : decode Y_X9_put.2.1 37 = .ok (.iadd, 1) := by decide +kernel
theorem dd_X9_put_38 : decode Y_X9_put.2.1 38 = .ok (.invokevirtual 53, 3) := by decide +kernel
theorem dd_X9_put_41 : decode Y_X9_put.2.1 41 = .ok (.bipush 97, 2) := by decide +kernel
theorem dd_X9_put_43 : decode Y_X9_put.2.1 43 = .ok (.isub, 1) := by decide +kernel
theorem dd_X9_put_44 : decode Y_X9_put.2.1 44 = .ok (.iconst 1, 1) := by decide +kernel
theorem dd_X9_put_45 : decode Y_X9_put.2.1 45 = .ok (.iadd, 1) := by decide +kernel
theorem dd_X9_put_46 : decode Y_X9_put.2.1 46 = .ok (.i2b, 1) := by decide +kernel
theorem dd_X9_put_47 : decode Y_X9_put.2.1 47 = .ok (.bastore, 1) := by decide +kernel
theorem dd_X9_put_48 : decode Y_X9_put.2.1 48 = .ok (.iinc 4 1, 3) := by decide +kernel
theorem dd_X9_put_51 : decode Y_X9_put.2.1 51 = .ok (.goto (-38), 3) := by decide +kernel
theorem dd_X9_put_54 : decode Y_X9_put.2.1 54 = .ok (.aload_n 0, 1) := by decide +kernel
theorem dd_X9_put_55 : decode Y_X9_put.2.1 55 = .ok (.getfield 15, 3) := by decide +kernel
theorem dd_X9_put_58 : decode Y_X9_put.2.1 58 = .ok (.iload_n 1, 1) := by decide +kernel
theorem dd_X9_put_59 : decode Y_X9_put.2.1 59 = .ok (.iload_n 3, 1) := by decide +kernel
theorem dd_X9_put_60 : decode Y_X9_put.2.1 60 = .ok (.iastore, 1) := by decide +kernel
theorem dd_X9_put_61 : decode Y_X9_put.2.1 61 = .ok (.return_, 1) := by decide +kernel
def F_X9_put_L13 (x0 : Nat) (x1 : Int32) (x2 : Nat) (x3 : Int32) (K54 : zM → zO) : Nat → Int32 → zM → zO
  | 0, _, _ => none
  | n + 1, x4, M => zit (x3 ≤ x4) (K54 M) (zbI (F_X8_at x2 ((M x2 4) + x4) M) (fun r2 M2 => zck (zin ((x1 * 9) + x4) 72) (zst (zup M2 (zgr x0 0) (zix ((x1 * 9) + x4)) (((r2 - 97) + 1).toInt8.toInt32).toInt8.toInt32) (fun M3 => F_X9_put_L13 x0 x1 x2 x3 K54 n (x4 + 1) M3))))
def F_X9_put (t : Nat) (a1 : Int32) (a2 : Nat) (M : zM) : zO := zbI (F_X8_size a2 M) (fun r1 M1 => zlt (if 9 < r1 then 9 else r1) (fun v1 => F_X9_put_L13 t a1 a2 v1 (fun  (M4 : zM) => zck (zin a1 8) (zst (zup M4 (zgr t 1) (zix a1) v1) (fun M5 => zV M5))) zN 0 M1))
set_option maxHeartbeats 1000000 in
set_option maxRecDepth 20000 in
theorem ct_X9_put_L13 (l : Launch) (hl : l.stackTraces = false) (G : zG) (x0 : Nat) (hx0 : zsh x0 = 9) (x1 : Int32) (x2 : Nat) (hx2 : zsh x2 = 8) (x3 : Int32) (K54 : zM → zO) (hK54 : ∀  (M : zM), zEv l G Y_X9_put 8 0 54 [(0, .ref (G.2.1 + x0)), (1, .int x1), (3, .int x3)] [] M (K54 M)) : ∀ (n : Nat) (x4 : Int32) (M : zM), zEv l G Y_X9_put 8 0 13 [(0, .ref (G.2.1 + x0)), (1, .int x1), (2, .ref (G.2.1 + x2)), (3, .int x3), (4, .int x4)] [] M (F_X9_put_L13 x0 x1 x2 x3 K54 n x4 M) := by
  intro n
  induction n with
  | zero => intro x4 M; exact ev_none
  | succ n ih =>
    intro x4 M
    show zEv l G Y_X9_put 8 0 13 [(0, .ref (G.2.1 + x0)), (1, .int x1), (2, .ref (G.2.1 + x2)), (3, .int x3), (4, .int x4)] [] M (zit (x3 ≤ x4) (K54 M) (zbI (F_X8_at x2 ((M x2 4) + x4) M) (fun r2 M2 => zck (zin ((x1 * 9) + x4) 72) (zst (zup M2 (zgr x0 0) (zix ((x1 * 9) + x4)) (((r2 - 97) + 1).toInt8.toInt32).toInt8.toInt32) (fun M3 => F_X9_put_L13 x0 x1 x2 x3 K54 n (x4 + 1) M3)))))
    refine ev_iload dd_X9_put_13 4 rfl ?_
    refine ev_iload_n dd_X9_put_15 3 rfl ?_
    refine ev_icmp_ge 54 dd_X9_put_16 (by decide) ?_ ?_
    · refine ev_lv (lv' := [(0, .ref (G.2.1 + x0)), (1, .int x1), (3, .int x3)]) [0, 1, 3] rfl ?_
      exact hK54 _
    · refine ev_aload_n dd_X9_put_19 0 rfl ?_
      refine ev_getR gf_RX9_9 dd_X9_put_20 hx0 (by decide) ?_
      refine ev_iload_n dd_X9_put_23 1 rfl ?_
      refine ev_bipush (v := 9) dd_X9_put_24 (by decide) ?_
      refine ev_imul dd_X9_put_26 ?_
      refine ev_iload dd_X9_put_27 4 rfl ?_
      refine ev_iadd dd_X9_put_29 ?_
      refine ev_aload_n dd_X9_put_30 2 rfl ?_
      refine ev_aload_n dd_X9_put_31 2 rfl ?_
      refine ev_getI gf_RX9_50 dd_X9_put_32 hx2 (by decide) ?_
      refine ev_iload dd_X9_put_35 4 rfl ?_
      refine ev_iadd dd_X9_put_37 ?_
      refine ev_callVI (As := [.int ((M x2 4) + x4)]) cl_RX9_53 (ct_X8_at l hl G x2 hx2 ((M x2 4) + x4) M) dd_X9_put_38 hx2 (by decide) (Nat.le_of_ble_eq_true rfl) (Nat.le_of_ble_eq_true rfl) rfl rfl (fun r2 M2 => ?_)
      refine ev_bipush (v := 97) dd_X9_put_41 (by decide) ?_
      refine ev_isub dd_X9_put_43 ?_
      refine ev_iconst (v := 1) dd_X9_put_44 (by decide) ?_
      refine ev_iadd dd_X9_put_45 ?_
      refine ev_i2b dd_X9_put_46 ?_
      refine ev_bast dd_X9_put_47 ((zg_9_0 hx0).1) ((zg_9_0 hx0).2) ?_
      refine ev_st (fun M3 => ?_)
      refine ev_iinc (j := 4) (v := 1) (lv' := [(0, .ref (G.2.1 + x0)), (1, .int x1), (2, .ref (G.2.1 + x2)), (3, .int x3), (4, .int (x4 + 1))]) [1, 2, 3, 4, 0] dd_X9_put_48 rfl (by decide) (by decide) rfl ?_
      refine ev_goto 13 dd_X9_put_51 (by decide) ?_
      exact ih _ _
set_option maxHeartbeats 1000000 in
set_option maxRecDepth 20000 in
theorem ct_X9_put (l : Launch) (hl : l.stackTraces = false) (G : zG) (t : Nat) (ht : zsh t = 9) (a1 : Int32) (a2 : Nat) (ha2 : zsh a2 = 8) (M : zM) : zMt l G Y_X9_put 8 [.ref (G.2.1 + t), .int a1, .ref (G.2.1 + a2)] M (F_X9_put t a1 a2 M) := by
  refine zMt_of (by decide +kernel) (Nat.le_of_ble_eq_true rfl) ?_
  show zEv l G Y_X9_put 8 0 0 [(0, .ref (G.2.1 + t)), (1, .int a1), (2, .ref (G.2.1 + a2))] [] M (zbI (F_X8_size a2 M) (fun r1 M1 => zlt (if 9 < r1 then 9 else r1) (fun v1 => F_X9_put_L13 t a1 a2 v1 (fun  (M4 : zM) => zck (zin a1 8) (zst (zup M4 (zgr t 1) (zix a1) v1) (fun M5 => zV M5))) zN 0 M1)))
  refine ev_aload_n dd_X9_put_0 2 rfl ?_
  refine ev_callVI (As := []) cl_RX9_38 (ct_X8_size l hl G a2 ha2 M) dd_X9_put_1 ha2 (by decide) (Nat.le_of_ble_eq_true rfl) (Nat.le_of_ble_eq_true rfl) rfl rfl (fun r1 M1 => ?_)
  refine ev_bipush (v := 9) dd_X9_put_4 (by decide) ?_
  refine ev_mmin mw_RX9_44 dd_X9_put_6 (Nat.le_of_ble_eq_true rfl) (Nat.le_of_ble_eq_true rfl) ?_
  refine ev_topi (fun v1 => ?_)
  refine ev_istore_n (i := 3) (lv' := [(0, .ref (G.2.1 + t)), (1, .int a1), (2, .ref (G.2.1 + a2)), (3, .int v1)]) [1, 2, 3, 0] dd_X9_put_9 rfl (by decide) rfl ?_
  refine ev_iconst (v := 0) dd_X9_put_10 (by decide) ?_
  refine ev_istore (i := 4) (lv' := [(0, .ref (G.2.1 + t)), (1, .int a1), (2, .ref (G.2.1 + a2)), (3, .int v1), (4, .int 0)]) [1, 2, 3, 4, 0] dd_X9_put_11 (by decide) rfl ?_
  refine ct_X9_put_L13 l hl G t ht a1 a2 ha2 v1 _ (fun M4 => ?_) zN _ _
  refine ev_aload_n dd_X9_put_54 0 rfl ?_
  refine ev_lv (lv' := [(1, .int a1), (3, .int v1)]) [1, 2] rfl ?_
  refine ev_getR gf_RX9_15 dd_X9_put_55 ht (by decide) ?_
  refine ev_iload_n dd_X9_put_58 0 rfl ?_
  refine ev_lv (lv' := [(3, .int v1)]) [1] rfl ?_
  refine ev_iload_n dd_X9_put_59 0 rfl ?_
  refine ev_lv (lv' := []) [] rfl ?_
  refine ev_iast dd_X9_put_60 ((zg_9_1 ht).1) ((zg_9_1 ht).2) ?_
  refine ev_st (fun M5 => ?_)
  exact ev_vret dd_X9_put_61 rfl (Nat.le_of_ble_eq_true rfl) rfl
/-! X7_readWord -/
theorem dd_X7_readWord_0 : decode Y_X7_readWord.2.1 0 = .ok (.aload_n 0, 1) := by decide +kernel
theorem dd_X7_readWord_1 : decode Y_X7_readWord.2.1 1 = .ok (.getfield 9, 3) := by decide +kernel
theorem dd_X7_readWord_4 : decode Y_X7_readWord.2.1 4 = .ok (.getfield 34, 3) := by decide +kernel
theorem dd_X7_readWord_7 : decode Y_X7_readWord.2.1 7 = .ok (.sipush 257, 3) := by decide +kernel
theorem dd_X7_readWord_10 : decode Y_X7_readWord.2.1 10 = .ok (.if_icmp .eq 14, 3) := by decide +kernel
theorem dd_X7_readWord_13 : decode Y_X7_readWord.2.1 13 = .ok (.aload_n 0, 1) := by decide +kernel
theorem dd_X7_readWord_14 : decode Y_X7_readWord.2.1 14 = .ok (.getfield 9, 3) := by decide +kernel
theorem dd_X7_readWord_17 : decode Y_X7_readWord.2.1 17 = .ok (.iconst 1, 1) := by decide +kernel
theorem dd_X7_readWord_18 : decode Y_X7_readWord.2.1 18 = .ok (.invokevirtual 72, 3) := by decide +kernel
theorem dd_X7_readWord_21 : decode Y_X7_readWord.2.1 21 = .ok (.goto 23, 3) := by decide +kernel
theorem dd_X7_readWord_24 : decode Y_X7_readWord.2.1 24 = .ok (.aload_n 0, 1) := by decide +kernel
theorem dd_X7_readWord_25 : decode Y_X7_readWord.2.1 25 = .ok (.getfield 9, 3) := by decide +kernel
theorem dd_X7_readWord_28 : decode Y_X7_readWord.2.1 28 = .ok (.invokevirtual 102, 3) := by decide +kernel
theorem dd_X7_readWord_31 : decode Y_X7_readWord.2.1 31 = .ok (.bipush 9, 2) := by decide +kernel
theorem dd_X7_readWord_33 : decode Y_X7_readWord.2.1 33 = .ok (.if_icmp .le 11, 3) := by decide +kernel
theorem dd_X7_readWord_36 : decode Y_X7_readWord.2.1 36 = .ok (.aload_n 0, 1) := by decide +kernel
theorem dd_X7_readWord_37 : decode Y_X7_readWord.2.1 37 = .ok (.getfield 9, 3) := by decide +kernel
theorem dd_X7_readWord_40 : decode Y_X7_readWord.2.1 40 = .ok (.iconst 2, 1) := by decide +kernel
theorem dd_X7_readWord_41 : decode Y_X7_readWord.2.1 41 = .ok (.invokevirtual 72, 3) := by decide +kernel
theorem dd_X7_readWord_44 : decode Y_X7_readWord.2.1 44 = .ok (.aload_n 0, 1) := by decide +kernel
theorem dd_X7_readWord_45 : decode Y_X7_readWord.2.1 45 = .ok (.getfield 15, 3) := by decide +kernel
theorem dd_X7_readWord_48 : decode Y_X7_readWord.2.1 48 = .ok (.getfield 106, 3) := by decide +kernel
theorem dd_X7_readWord_51 : decode Y_X7_readWord.2.1 51 = .ok (.aload_n 0, 1) := by decide +kernel
theorem dd_X7_readWord_52 : decode Y_X7_readWord.2.1 52 = .ok (.getfield 15, 3) := by decide +kernel
theorem dd_X7_readWord_55 : decode Y_X7_readWord.2.1 55 = .ok (.getfield 75, 3) := by decide +kernel
theorem dd_X7_readWord_58 : decode Y_X7_readWord.2.1 58 = .ok (.aload_n 0, 1) := by decide +kernel
theorem dd_X7_readWord_59 : decode Y_X7_readWord.2.1 59 = .ok (.getfield 9, 3) := by decide +kernel
theorem dd_X7_readWord_62 : decode Y_X7_readWord.2.1 62 = .ok (.invokevirtual 110, 3) := by decide +kernel
theorem dd_X7_readWord_65 : decode Y_X7_readWord.2.1 65 = .ok (.iconst 0, 1) := by decide +kernel
theorem dd_X7_readWord_66 : decode Y_X7_readWord.2.1 66 = .ok (.istore_n 1, 1) := by decide +kernel
theorem dd_X7_readWord_67 : decode Y_X7_readWord.2.1 67 = .ok (.iload_n 1, 1) := by decide +kernel
theorem dd_X7_readWord_68 : decode Y_X7_readWord.2.1 68 = .ok (.aload_n 0, 1) := by decide +kernel
theorem dd_X7_readWord_69 : decode Y_X7_readWord.2.1 69 = .ok (.getfield 15, 3) := by decide +kernel
theorem dd_X7_readWord_72 : decode Y_X7_readWord.2.1 72 = .ok (.getfield 75, 3) := by decide +kernel
theorem dd_X7_readWord_75 : decode Y_X7_readWord.2.1 75 = .ok (.if_icmp .ge 38, 3) := by decide +kernel
theorem dd_X7_readWord_78 : decode Y_X7_readWord.2.1 78 = .ok (.aload_n 0, 1) := by decide +kernel
theorem dd_X7_readWord_79 : decode Y_X7_readWord.2.1 79 = .ok (.getfield 15, 3) := by decide +kernel
theorem dd_X7_readWord_82 : decode Y_X7_readWord.2.1 82 = .ok (.getfield 106, 3) := by decide +kernel
theorem dd_X7_readWord_85 : decode Y_X7_readWord.2.1 85 = .ok (.iload_n 1, 1) := by decide +kernel
theorem dd_X7_readWord_86 : decode Y_X7_readWord.2.1 86 = .ok (.aload_n 0, 1) := by decide +kernel
theorem dd_X7_readWord_87 : decode Y_X7_readWord.2.1 87 = .ok (.getfield 15, 3) := by decide +kernel
theorem dd_X7_readWord_90 : decode Y_X7_readWord.2.1 90 = .ok (.getfield 75, 3) := by decide +kernel
theorem dd_X7_readWord_93 : decode Y_X7_readWord.2.1 93 = .ok (.invokevirtual 116, 3) := by decide +kernel
theorem dd_X7_readWord_96 : decode Y_X7_readWord.2.1 96 = .ok (.ifCond .eq 11, 3) := by decide +kernel
theorem dd_X7_readWord_99 : decode Y_X7_readWord.2.1 99 = .ok (.aload_n 0, 1) := by decide +kernel
theorem dd_X7_readWord_100 : decode Y_X7_readWord.2.1 100 = .ok (.getfield 9, 3) := by decide +kernel
theorem dd_X7_readWord_103 : decode Y_X7_readWord.2.1 103 = .ok (.iconst 4, 1) := by decide +kernel
theorem dd_X7_readWord_104 : decode Y_X7_readWord.2.1 104 = .ok (.invokevirtual 72, 3) := by decide +kernel
theorem dd_X7_readWord_107 : decode Y_X7_readWord.2.1 107 = .ok (.iinc 1 1, 3) := by decide +kernel
theorem dd_X7_readWord_110 : decode Y_X7_readWord.2.1 110 = .ok (.goto (-43), 3) := by decide +kernel
theorem dd_X7_readWord_113 : decode Y_X7_readWord.2.1 113 = .ok (.aload_n 0, 1) := by decide +kernel
theorem dd_X7_readWord_114 : decode Y_X7_readWord.2.1 114 = .ok (.getfield 9, 3) := by decide +kernel
theorem dd_X7_readWord_117 : decode Y_X7_readWord.2.1 117 = .ok (.invokevirtual 78, 3) := by decide +kernel
theorem dd_X7_readWord_120 : decode Y_X7_readWord.2.1 120 = .ok (.return_, 1) := by decide +kernel
def F_X7_readWord_L67 (x0 : Nat) (K113 : zM → zO) : Nat → Int32 → zM → zO
  | 0, _, _ => none
  | n + 1, x1, M => zit ((M (zgr x0 1) 0) ≤ x1) (K113 M) (zbI (F_X9_alike (zgr (zgr x0 1) 4) x1 (M (zgr x0 1) 0) M) (fun r2 M6 => zjo (fun  (M8 : zM) => F_X7_readWord_L67 x0 K113 n (x1 + 1) M8) (fun (k2 : zM → zO) => zit (r2 = 0) (k2 M6) (zbV (F_X8_refuse (zgr x0 0) 4 M6) (fun M7 => k2 M7)))))
def F_X7_readWord (t : Nat) (M : zM) : zO := zjo (fun  (M4 : zM) => zbV (F_X9_put (zgr (zgr t 1) 4) (M4 (zgr t 1) 0) (zgr t 0) M4) (fun M5 => F_X7_readWord_L67 t (fun  (M9 : zM) => zbV (F_X8_step (zgr t 0) M9) (fun M10 => zV M10)) zN 0 M5)) (fun (k1 : zM → zO) => zit ((M (zgr t 0) 3) = 257) (zbI (F_X8_size (zgr t 0) M) (fun r1 M1 => zit (r1 ≤ 9) (k1 M1) (zbV (F_X8_refuse (zgr t 0) 2 M1) (fun M2 => k1 M2)))) (zbV (F_X8_refuse (zgr t 0) 1 M) (fun M3 => k1 M3)))
set_option maxHeartbeats 1000000 in
set_option maxRecDepth 20000 in
theorem ct_X7_readWord_L67 (l : Launch) (hl : l.stackTraces = false) (G : zG) (x0 : Nat) (hx0 : zsh x0 = 7) (K113 : zM → zO) (hK113 : ∀  (M : zM), zEv l G Y_X7_readWord 13 0 113 [(0, .ref (G.2.1 + x0))] [] M (K113 M)) : ∀ (n : Nat) (x1 : Int32) (M : zM), zEv l G Y_X7_readWord 13 0 67 [(0, .ref (G.2.1 + x0)), (1, .int x1)] [] M (F_X7_readWord_L67 x0 K113 n x1 M) := by
  intro n
  induction n with
  | zero => intro x1 M; exact ev_none
  | succ n ih =>
    intro x1 M
    show zEv l G Y_X7_readWord 13 0 67 [(0, .ref (G.2.1 + x0)), (1, .int x1)] [] M (zit ((M (zgr x0 1) 0) ≤ x1) (K113 M) (zbI (F_X9_alike (zgr (zgr x0 1) 4) x1 (M (zgr x0 1) 0) M) (fun r2 M6 => zjo (fun  (M8 : zM) => F_X7_readWord_L67 x0 K113 n (x1 + 1) M8) (fun (k2 : zM → zO) => zit (r2 = 0) (k2 M6) (zbV (F_X8_refuse (zgr x0 0) 4 M6) (fun M7 => k2 M7))))))
    refine ev_iload_n dd_X7_readWord_67 1 rfl ?_
    refine ev_aload_n dd_X7_readWord_68 0 rfl ?_
    refine ev_getR gf_RX7_15 dd_X7_readWord_69 hx0 (by decide) ?_
    refine ev_getI gf_RX7_75 dd_X7_readWord_72 (zg_7_1 hx0) (by decide) ?_
    refine ev_icmp_ge 113 dd_X7_readWord_75 (by decide) ?_ ?_
    · refine ev_lv (lv' := [(0, .ref (G.2.1 + x0))]) [0] rfl ?_
      exact hK113 _
    · refine ev_aload_n dd_X7_readWord_78 0 rfl ?_
      refine ev_getR gf_RX7_15 dd_X7_readWord_79 hx0 (by decide) ?_
      refine ev_getR gf_RX7_106 dd_X7_readWord_82 (zg_7_1 hx0) (by decide) ?_
      refine ev_iload_n dd_X7_readWord_85 1 rfl ?_
      refine ev_aload_n dd_X7_readWord_86 0 rfl ?_
      refine ev_getR gf_RX7_15 dd_X7_readWord_87 hx0 (by decide) ?_
      refine ev_getI gf_RX7_75 dd_X7_readWord_90 (zg_7_1 hx0) (by decide) ?_
      refine ev_callVI (As := [.int x1, .int (M (zgr x0 1) 0)]) cl_RX7_116 (ct_X9_alike l hl G (zgr (zgr x0 1) 4) (zg_6_4 (zg_7_1 hx0)) x1 (M (zgr x0 1) 0) M) dd_X7_readWord_93 (zg_6_4 (zg_7_1 hx0)) (by decide) (Nat.le_of_ble_eq_true rfl) (Nat.le_of_ble_eq_true rfl) rfl rfl (fun r2 M6 => ?_)
      refine ev_jo (fun (k2 : zM → zO) => ∀  (M8 : zM), zEv l G Y_X7_readWord 13 0 107 [(0, .ref (G.2.1 + x0)), (1, .int x1)] [] M8 (k2 M8)) ?_ (fun k2 hk2 => ?_)
      · intro M8
        refine ev_iinc (j := 1) (v := 1) (lv' := [(0, .ref (G.2.1 + x0)), (1, .int (x1 + 1))]) [1, 0] dd_X7_readWord_107 rfl (by decide) (by decide) rfl ?_
        refine ev_goto 67 dd_X7_readWord_110 (by decide) ?_
        exact ih _ _
      · refine ev_if_eq 107 dd_X7_readWord_96 (by decide) ?_ ?_
        · exact hk2 _
        · refine ev_aload_n dd_X7_readWord_99 0 rfl ?_
          refine ev_getR gf_RX7_9 dd_X7_readWord_100 hx0 (by decide) ?_
          refine ev_iconst (v := 4) dd_X7_readWord_103 (by decide) ?_
          refine ev_callVV (As := [.int 4]) cl_RX7_72 (ct_X8_refuse l hl G (zgr x0 0) (zg_7_0 hx0) 4 M6) dd_X7_readWord_104 (zg_7_0 hx0) (by decide) (Nat.le_of_ble_eq_true rfl) (Nat.le_of_ble_eq_true rfl) rfl rfl (fun M7 => ?_)
          exact hk2 _
set_option maxHeartbeats 1000000 in
set_option maxRecDepth 20000 in
theorem ct_X7_readWord (l : Launch) (hl : l.stackTraces = false) (G : zG) (t : Nat) (ht : zsh t = 7) (M : zM) : zMt l G Y_X7_readWord 13 [.ref (G.2.1 + t)] M (F_X7_readWord t M) := by
  refine zMt_of (by decide +kernel) (Nat.le_of_ble_eq_true rfl) ?_
  show zEv l G Y_X7_readWord 13 0 0 [(0, .ref (G.2.1 + t))] [] M (zjo (fun  (M4 : zM) => zbV (F_X9_put (zgr (zgr t 1) 4) (M4 (zgr t 1) 0) (zgr t 0) M4) (fun M5 => F_X7_readWord_L67 t (fun  (M9 : zM) => zbV (F_X8_step (zgr t 0) M9) (fun M10 => zV M10)) zN 0 M5)) (fun (k1 : zM → zO) => zit ((M (zgr t 0) 3) = 257) (zbI (F_X8_size (zgr t 0) M) (fun r1 M1 => zit (r1 ≤ 9) (k1 M1) (zbV (F_X8_refuse (zgr t 0) 2 M1) (fun M2 => k1 M2)))) (zbV (F_X8_refuse (zgr t 0) 1 M) (fun M3 => k1 M3))))
  refine ev_aload_n dd_X7_readWord_0 0 rfl ?_
  refine ev_getR gf_RX7_9 dd_X7_readWord_1 ht (by decide) ?_
  refine ev_getI gf_RX7_34 dd_X7_readWord_4 (zg_7_0 ht) (by decide) ?_
  refine ev_sipush (v := 257) dd_X7_readWord_7 (by decide) ?_
  refine ev_jo (fun (k1 : zM → zO) => ∀  (M4 : zM), zEv l G Y_X7_readWord 13 0 44 [(0, .ref (G.2.1 + t))] [] M4 (k1 M4)) ?_ (fun k1 hk1 => ?_)
  · intro M4
    refine ev_aload_n dd_X7_readWord_44 0 rfl ?_
    refine ev_getR gf_RX7_15 dd_X7_readWord_45 ht (by decide) ?_
    refine ev_getR gf_RX7_106 dd_X7_readWord_48 (zg_7_1 ht) (by decide) ?_
    refine ev_aload_n dd_X7_readWord_51 0 rfl ?_
    refine ev_getR gf_RX7_15 dd_X7_readWord_52 ht (by decide) ?_
    refine ev_getI gf_RX7_75 dd_X7_readWord_55 (zg_7_1 ht) (by decide) ?_
    refine ev_aload_n dd_X7_readWord_58 0 rfl ?_
    refine ev_getR gf_RX7_9 dd_X7_readWord_59 ht (by decide) ?_
    refine ev_callVV (As := [.int (M4 (zgr t 1) 0), .ref (G.2.1 + (zgr t 0))]) cl_RX7_110 (ct_X9_put l hl G (zgr (zgr t 1) 4) (zg_6_4 (zg_7_1 ht)) (M4 (zgr t 1) 0) (zgr t 0) (zg_7_0 ht) M4) dd_X7_readWord_62 (zg_6_4 (zg_7_1 ht)) (by decide) (Nat.le_of_ble_eq_true rfl) (Nat.le_of_ble_eq_true rfl) rfl rfl (fun M5 => ?_)
    refine ev_iconst (v := 0) dd_X7_readWord_65 (by decide) ?_
    refine ev_istore_n (i := 1) (lv' := [(0, .ref (G.2.1 + t)), (1, .int 0)]) [1, 0] dd_X7_readWord_66 rfl (by decide) rfl ?_
    refine ct_X7_readWord_L67 l hl G t ht _ (fun M9 => ?_) zN _ _
    refine ev_aload_n dd_X7_readWord_113 0 rfl ?_
    refine ev_lv (lv' := []) [] rfl ?_
    refine ev_getR gf_RX7_9 dd_X7_readWord_114 ht (by decide) ?_
    refine ev_callVV (As := []) cl_RX7_78 (ct_X8_step l hl G (zgr t 0) (zg_7_0 ht) M9) dd_X7_readWord_117 (zg_7_0 ht) (by decide) (Nat.le_of_ble_eq_true rfl) (Nat.le_of_ble_eq_true rfl) rfl rfl (fun M10 => ?_)
    exact ev_vret dd_X7_readWord_120 rfl (Nat.le_of_ble_eq_true rfl) rfl
  · refine ev_icmp_eq 24 dd_X7_readWord_10 (by decide) ?_ ?_
    · refine ev_aload_n dd_X7_readWord_24 0 rfl ?_
      refine ev_getR gf_RX7_9 dd_X7_readWord_25 ht (by decide) ?_
      refine ev_callVI (As := []) cl_RX7_102 (ct_X8_size l hl G (zgr t 0) (zg_7_0 ht) M) dd_X7_readWord_28 (zg_7_0 ht) (by decide) (Nat.le_of_ble_eq_true rfl) (Nat.le_of_ble_eq_true rfl) rfl rfl (fun r1 M1 => ?_)
      refine ev_bipush (v := 9) dd_X7_readWord_31 (by decide) ?_
      refine ev_icmp_le 44 dd_X7_readWord_33 (by decide) ?_ ?_
      · exact hk1 _
      · refine ev_aload_n dd_X7_readWord_36 0 rfl ?_
        refine ev_getR gf_RX7_9 dd_X7_readWord_37 ht (by decide) ?_
        refine ev_iconst (v := 2) dd_X7_readWord_40 (by decide) ?_
        refine ev_callVV (As := [.int 2]) cl_RX7_72 (ct_X8_refuse l hl G (zgr t 0) (zg_7_0 ht) 2 M1) dd_X7_readWord_41 (zg_7_0 ht) (by decide) (Nat.le_of_ble_eq_true rfl) (Nat.le_of_ble_eq_true rfl) rfl rfl (fun M2 => ?_)
        exact hk1 _
    · refine ev_aload_n dd_X7_readWord_13 0 rfl ?_
      refine ev_getR gf_RX7_9 dd_X7_readWord_14 ht (by decide) ?_
      refine ev_iconst (v := 1) dd_X7_readWord_17 (by decide) ?_
      refine ev_callVV (As := [.int 1]) cl_RX7_72 (ct_X8_refuse l hl G (zgr t 0) (zg_7_0 ht) 1 M) dd_X7_readWord_18 (zg_7_0 ht) (by decide) (Nat.le_of_ble_eq_true rfl) (Nat.le_of_ble_eq_true rfl) rfl rfl (fun M3 => ?_)
      refine ev_goto 44 dd_X7_readWord_21 (by decide) ?_
      exact hk1 _
/-! X7_readName -/
theorem dd_X7_readName_0 : decode Y_X7_readName.2.1 0 = .ok (.aload_n 0, 1) := by decide +kernel
theorem dd_X7_readName_1 : decode Y_X7_readName.2.1 1 = .ok (.getfield 15, 3) := by decide +kernel
theorem dd_X7_readName_4 : decode Y_X7_readName.2.1 4 = .ok (.getfield 75, 3) := by decide +kernel
theorem dd_X7_readName_7 : decode Y_X7_readName.2.1 7 = .ok (.bipush 8, 2) := by decide +kernel
theorem dd_X7_readName_9 : decode Y_X7_readName.2.1 9 = .ok (.if_icmp .lt 12, 3) := by decide +kernel
theorem dd_X7_readName_12 : decode Y_X7_readName.2.1 12 = .ok (.aload_n 0, 1) := by decide +kernel
theorem dd_X7_readName_13 : decode Y_X7_readName.2.1 13 = .ok (.getfield 9, 3) := by decide +kernel
theorem dd_X7_readName_16 : decode Y_X7_readName.2.1 16 = .ok (.iconst 2, 1) := by decide +kernel
theorem dd_X7_readName_17 : decode Y_X7_readName.2.1 17 = .ok (.invokevirtual 72, 3) := by decide +kernel
theorem dd_X7_readName_20 : decode Y_X7_readName.2.1 20 = .ok (.return_, 1) := by decide +kernel
theorem dd_X7_readName_21 : decode Y_X7_readName.2.1 21 = .ok (.aload_n 0, 1) := by decide +kernel
theorem dd_X7_readName_22 : decode Y_X7_readName.2.1 22 = .ok (.getfield 9, 3) := by decide +kernel
theorem dd_X7_readName_25 : decode Y_X7_readName.2.1 25 = .ok (.invokevirtual 78, 3) := by decide +kernel
theorem dd_X7_readName_28 : decode Y_X7_readName.2.1 28 = .ok (.aload_n 0, 1) := by decide +kernel
theorem dd_X7_readName_29 : decode Y_X7_readName.2.1 29 = .ok (.invokevirtual 81, 3) := by decide +kernel
theorem dd_X7_readName_32 : decode Y_X7_readName.2.1 32 = .ok (.aload_n 0, 1) := by decide +kernel
theorem dd_X7_readName_33 : decode Y_X7_readName.2.1 33 = .ok (.getfield 9, 3) := by decide +kernel
theorem dd_X7_readName_36 : decode Y_X7_readName.2.1 36 = .ok (.iconst 0, 1) := by decide +kernel
theorem dd_X7_readName_37 : decode Y_X7_readName.2.1 37 = .ok (.bipush 60, 2) := by decide +kernel
theorem dd_X7_readName_39 : decode Y_X7_readName.2.1 39 = .ok (.invokevirtual 84, 3) := by decide +kernel
theorem dd_X7_readName_42 : decode Y_X7_readName.2.1 42 = .ok (.istore_n 1, 1) := by decide +kernel
theorem dd_X7_readName_43 : decode Y_X7_readName.2.1 43 = .ok (.aload_n 0, 1) := by decide +kernel
theorem dd_X7_readName_44 : decode Y_X7_readName.2.1 44 = .ok (.getfield 9, 3) := by decide +kernel
theorem dd_X7_readName_47 : decode Y_X7_readName.2.1 47 = .ok (.iconst 0, 1) := by decide +kernel
theorem dd_X7_readName_48 : decode Y_X7_readName.2.1 48 = .ok (.bipush 60, 2) := by decide +kernel
theorem dd_X7_readName_50 : decode Y_X7_readName.2.1 50 = .ok (.invokevirtual 84, 3) := by decide +kernel
theorem dd_X7_readName_53 : decode Y_X7_readName.2.1 53 = .ok (.istore_n 2, 1) := by decide +kernel
theorem dd_X7_readName_54 : decode Y_X7_readName.2.1 54 = .ok (.aload_n 0, 1) := by decide +kernel
theorem dd_X7_readName_55 : decode Y_X7_readName.2.1 55 = .ok (.getfield 9, 3) := by decide +kernel
theorem dd_X7_readName_58 : decode Y_X7_readName.2.1 58 = .ok (.ldc 88, 2) := by decide +kernel
theorem dd_X7_readName_60 : decode Y_X7_readName.2.1 60 = .ok (.invokevirtual 45, 3) := by decide +kernel
theorem dd_X7_readName_63 : decode Y_X7_readName.2.1 63 = .ok (.ifCond .eq 7, 3) := by decide +kernel
theorem dd_X7_readName_66 : decode Y_X7_readName.2.1 66 = .ok (.iconst 1, 1) := by decide +kernel
theorem dd_X7_readName_67 : decode Y_X7_readName.2.1 67 = .ok (.goto 20, 3) := by decide +kernel
theorem dd_X7_readName_70 : decode Y_X7_readName.2.1 70 = .ok (.aload_n 0, 1) := by decide +kernel
theorem dd_X7_readName_71 : decode Y_X7_readName.2.1 71 = .ok (.getfield 9, 3) := by decide +kernel
theorem dd_X7_readName_74 : decode Y_X7_readName.2.1 74 = .ok (.ldc 90, 2) := by decide +kernel
theorem dd_X7_readName_76 : decode Y_X7_readName.2.1 76 = .ok (.invokevirtual 45, 3) := by decide +kernel
theorem dd_X7_readName_79 : decode Y_X7_readName.2.1 79 = .ok (.ifCond .eq 7, 3) := by decide +kernel
theorem dd_X7_readName_82 : decode Y_X7_readName.2.1 82 = .ok (.iconst 2, 1) := by decide +kernel
theorem dd_X7_readName_83 : decode Y_X7_readName.2.1 83 = .ok (.goto 4, 3) := by decide +kernel
theorem dd_X7_readName_86 : decode Y_X7_readName.2.1 86 = .ok (.iconst 0, 1) := by decide +kernel
theorem dd_X7_readName_87 : decode Y_X7_readName.2.1 87 = .ok (.istore_n 3, 1) := by decide +kernel
theorem dd_X7_readName_88 : decode Y_X7_readName.2.1 88 = .ok (.iload_n 3, 1) := by decide +kernel
theorem dd_X7_readName_89 : decode Y_X7_readName.2.1 89 = .ok (.ifCond .eq 10, 3) := by decide +kernel
theorem dd_X7_readName_92 : decode Y_X7_readName.2.1 92 = .ok (.aload_n 0, 1) := by decide +kernel
theorem dd_X7_readName_93 : decode Y_X7_readName.2.1 93 = .ok (.getfield 9, 3) := by decide +kernel
theorem dd_X7_readName_96 : decode Y_X7_readName.2.1 96 = .ok (.invokevirtual 78, 3) := by decide +kernel
theorem dd_X7_readName_99 : decode Y_X7_readName.2.1 99 = .ok (.aload_n 0, 1) := by decide +kernel
theorem dd_X7_readName_100 : decode Y_X7_readName.2.1 100 = .ok (.getfield 15, 3) := by decide +kernel
theorem dd_X7_readName_103 : decode Y_X7_readName.2.1 103 = .ok (.getfield 92, 3) := by decide +kernel
theorem dd_X7_readName_106 : decode Y_X7_readName.2.1 106 = .ok (.aload_n 0, 1) := by decide +kernel
theorem dd_X7_readName_107 : decode Y_X7_readName.2.1 107 = .ok (.getfield 15, 3) := by decide +kernel
theorem dd_X7_readName_110 : decode Y_X7_readName.2.1 110 = .ok (.getfield 75, 3) := by decide +kernel
theorem dd_X7_readName_113 : decode Y_X7_readName.2.1 113 = .ok (.iload_n 1, 1) := by decide +kernel
theorem dd_X7_readName_114 : decode Y_X7_readName.2.1 114 = .ok (.iastore, 1) := by decide +kernel
theorem dd_X7_readName_115 : decode Y_X7_readName.2.1 115 = .ok (.aload_n 0, 1) := by decide +kernel
theorem dd_X7_readName_116 : decode Y_X7_readName.2.1 116 = .ok (.getfield 15, 3) := by decide +kernel
theorem dd_X7_readName_119 : decode Y_X7_readName.2.1 119 = .ok (.getfield 96, 3) := by decide +kernel
theorem dd_X7_readName_122 : decode Y_X7_readName.2.1 122 = .ok (.aload_n 0, 1) := by decide +kernel
theorem dd_X7_readName_123 : decode Y_X7_readName.2.1 123 = .ok (.getfield 15, 3) := by decide +kernel
theorem dd_X7_readName_126 : decode Y_X7_readName.2.1 126 = .ok (.getfield 75, 3) := by decide +kernel
theorem dd_X7_readName_129 : decode Y_X7_readName.2.1 129 = .ok (.iload_n 2, 1) := by decide +kernel
theorem dd_X7_readName_130 : decode Y_X7_readName.2.1 130 = .ok (.iastore, 1) := by decide +kernel
theorem dd_X7_readName_131 : decode Y_X7_readName.2.1 131 = .ok (.aload_n 0, 1) := by decide +kernel
theorem dd_X7_readName_132 : decode Y_X7_readName.2.1 132 = .ok (.getfield 15, 3) := by decide +kernel
theorem dd_X7_readName_135 : decode Y_X7_readName.2.1 135 = .ok (.getfield 99, 3) := by decide +kernel
theorem dd_X7_readName_138 : decode Y_X7_readName.2.1 138 = .ok (.aload_n 0, 1) := by decide +kernel
theorem dd_X7_readName_139 : decode Y_X7_readName.2.1 139 = .ok (.getfield 15, 3) := by decide +kernel
theorem dd_X7_readName_142 : decode Y_X7_readName.2.1 142 = .ok (.getfield 75, 3) := by decide +kernel
theorem dd_X7_readName_145 : decode Y_X7_readName.2.1 145 = .ok (.iload_n 3, 1) := by decide +kernel
theorem dd_X7_readName_146 : decode Y_X7_readName.2.1 146 = .ok (.iastore, 1) := by decide +kernel
theorem dd_X7_readName_147 : decode Y_X7_readName.2.1 147 = .ok (.aload_n 0, 1) := by decide +kernel
theorem dd_X7_readName_148 : decode Y_X7_readName.2.1 148 = .ok (.getfield 15, 3) := by decide +kernel
theorem dd_X7_readName_151 : decode Y_X7_readName.2.1 151 = .ok (.dup, 1) := by decide +kernel
theorem dd_X7_readName_152 : decode Y_X7_readName.2.1 152 = .ok (.getfield 75, 3) := by decide +kernel
theorem dd_X7_readName_155 : decode Y_X7_readName.2.1 155 = .ok (.iconst 1, 1) := by decide +kernel
theorem dd_X7_readName_156 : decode Y_X7_readName.2.1 156 = .ok (.iadd, 1) := by decide +kernel
theorem dd_X7_readName_157 : decode Y_X7_readName.2.1 157 = .ok (.putfield 75, 3) := by decide +kernel
theorem dd_X7_readName_160 : decode Y_X7_readName.2.1 160 = .ok (.return_, 1) := by decide +kernel
def F_X7_readName (t : Nat) (M : zM) : zO := zit ((M (zgr t 1) 0) < 8) (zbV (F_X8_step (zgr t 0) M) (fun M1 => zbV (F_X7_readWord t M1) (fun M2 => zbI (F_X8_takeNumber (zgr t 0) 0 60 M2) (fun r1 M3 => zbI (F_X8_takeNumber (zgr t 0) 0 60 M3) (fun r2 M4 => zbI (F_X8_isWord (zgr t 0) 3 M4) (fun r3 M5 => zjo (fun (w1 : Int32) (M7 : zM) => zjo (fun  (M9 : zM) => zck (zin (M9 (zgr t 1) 0) 8) (zst (zup M9 (zgr (zgr t 1) 6) (zix (M9 (zgr t 1) 0)) r1) (fun M10 => zck (zin (M10 (zgr t 1) 0) 8) (zst (zup M10 (zgr (zgr t 1) 7) (zix (M10 (zgr t 1) 0)) r2) (fun M11 => zck (zin (M11 (zgr t 1) 0) 8) (zst (zup M11 (zgr (zgr t 1) 8) (zix (M11 (zgr t 1) 0)) w1) (fun M12 => zst (zup M12 (zgr t 1) 0 ((M12 (zgr t 1) 0) + 1)) (fun M13 => zV M13)))))))) (fun (k2 : zM → zO) => zit (w1 = 0) (k2 M7) (zbV (F_X8_step (zgr t 0) M7) (fun M8 => k2 M8)))) (fun (k1 : Int32 → zM → zO) => zit (r3 = 0) (zbI (F_X8_isWord (zgr t 0) 4 M5) (fun r4 M6 => zit (r4 = 0) (k1 0 M6) (k1 2 M6))) (k1 1 M5)))))))) (zbV (F_X8_refuse (zgr t 0) 2 M) (fun M14 => zV M14))
set_option maxHeartbeats 1000000 in
set_option maxRecDepth 20000 in
theorem ct_X7_readName (l : Launch) (hl : l.stackTraces = false) (G : zG) (t : Nat) (ht : zsh t = 7) (M : zM) : zMt l G Y_X7_readName 14 [.ref (G.2.1 + t)] M (F_X7_readName t M) := by
  refine zMt_of (by decide +kernel) (Nat.le_of_ble_eq_true rfl) ?_
  show zEv l G Y_X7_readName 14 0 0 [(0, .ref (G.2.1 + t))] [] M (zit ((M (zgr t 1) 0) < 8) (zbV (F_X8_step (zgr t 0) M) (fun M1 => zbV (F_X7_readWord t M1) (fun M2 => zbI (F_X8_takeNumber (zgr t 0) 0 60 M2) (fun r1 M3 => zbI (F_X8_takeNumber (zgr t 0) 0 60 M3) (fun r2 M4 => zbI (F_X8_isWord (zgr t 0) 3 M4) (fun r3 M5 => zjo (fun (w1 : Int32) (M7 : zM) => zjo (fun  (M9 : zM) => zck (zin (M9 (zgr t 1) 0) 8) (zst (zup M9 (zgr (zgr t 1) 6) (zix (M9 (zgr t 1) 0)) r1) (fun M10 => zck (zin (M10 (zgr t 1) 0) 8) (zst (zup M10 (zgr (zgr t 1) 7) (zix (M10 (zgr t 1) 0)) r2) (fun M11 => zck (zin (M11 (zgr t 1) 0) 8) (zst (zup M11 (zgr (zgr t 1) 8) (zix (M11 (zgr t 1) 0)) w1) (fun M12 => zst (zup M12 (zgr t 1) 0 ((M12 (zgr t 1) 0) + 1)) (fun M13 => zV M13)))))))) (fun (k2 : zM → zO) => zit (w1 = 0) (k2 M7) (zbV (F_X8_step (zgr t 0) M7) (fun M8 => k2 M8)))) (fun (k1 : Int32 → zM → zO) => zit (r3 = 0) (zbI (F_X8_isWord (zgr t 0) 4 M5) (fun r4 M6 => zit (r4 = 0) (k1 0 M6) (k1 2 M6))) (k1 1 M5)))))))) (zbV (F_X8_refuse (zgr t 0) 2 M) (fun M14 => zV M14)))
  refine ev_aload_n dd_X7_readName_0 0 rfl ?_
  refine ev_getR gf_RX7_15 dd_X7_readName_1 ht (by decide) ?_
  refine ev_getI gf_RX7_75 dd_X7_readName_4 (zg_7_1 ht) (by decide) ?_
  refine ev_bipush (v := 8) dd_X7_readName_7 (by decide) ?_
  refine ev_icmp_lt 21 dd_X7_readName_9 (by decide) ?_ ?_
  · refine ev_aload_n dd_X7_readName_21 0 rfl ?_
    refine ev_getR gf_RX7_9 dd_X7_readName_22 ht (by decide) ?_
    refine ev_callVV (As := []) cl_RX7_78 (ct_X8_step l hl G (zgr t 0) (zg_7_0 ht) M) dd_X7_readName_25 (zg_7_0 ht) (by decide) (Nat.le_of_ble_eq_true rfl) (Nat.le_of_ble_eq_true rfl) rfl rfl (fun M1 => ?_)
    refine ev_aload_n dd_X7_readName_28 0 rfl ?_
    refine ev_callVV (As := []) cl_RX7_81 (ct_X7_readWord l hl G t ht M1) dd_X7_readName_29 ht (by decide) (Nat.le_of_ble_eq_true rfl) (Nat.le_of_ble_eq_true rfl) rfl rfl (fun M2 => ?_)
    refine ev_aload_n dd_X7_readName_32 0 rfl ?_
    refine ev_getR gf_RX7_9 dd_X7_readName_33 ht (by decide) ?_
    refine ev_iconst (v := 0) dd_X7_readName_36 (by decide) ?_
    refine ev_bipush (v := 60) dd_X7_readName_37 (by decide) ?_
    refine ev_callVI (As := [.int 0, .int 60]) cl_RX7_84 (ct_X8_takeNumber l hl G (zgr t 0) (zg_7_0 ht) 0 60 M2) dd_X7_readName_39 (zg_7_0 ht) (by decide) (Nat.le_of_ble_eq_true rfl) (Nat.le_of_ble_eq_true rfl) rfl rfl (fun r1 M3 => ?_)
    refine ev_istore_n (i := 1) (lv' := [(0, .ref (G.2.1 + t)), (1, .int r1)]) [1, 0] dd_X7_readName_42 rfl (by decide) rfl ?_
    refine ev_aload_n dd_X7_readName_43 0 rfl ?_
    refine ev_getR gf_RX7_9 dd_X7_readName_44 ht (by decide) ?_
    refine ev_iconst (v := 0) dd_X7_readName_47 (by decide) ?_
    refine ev_bipush (v := 60) dd_X7_readName_48 (by decide) ?_
    refine ev_callVI (As := [.int 0, .int 60]) cl_RX7_84 (ct_X8_takeNumber l hl G (zgr t 0) (zg_7_0 ht) 0 60 M3) dd_X7_readName_50 (zg_7_0 ht) (by decide) (Nat.le_of_ble_eq_true rfl) (Nat.le_of_ble_eq_true rfl) rfl rfl (fun r2 M4 => ?_)
    refine ev_istore_n (i := 2) (lv' := [(0, .ref (G.2.1 + t)), (1, .int r1), (2, .int r2)]) [1, 2, 0] dd_X7_readName_53 rfl (by decide) rfl ?_
    refine ev_aload_n dd_X7_readName_54 0 rfl ?_
    refine ev_getR gf_RX7_9 dd_X7_readName_55 ht (by decide) ?_
    refine ev_ldcs dd_X7_readName_58 sr_RX7_88 ?_
    refine ev_callVI (As := [.ref (G.2.2.2.1 3)]) cl_RX7_45 (ct_X8_isWord l hl G (zgr t 0) (zg_7_0 ht) 3 (by decide) M4) dd_X7_readName_60 (zg_7_0 ht) (by decide) (Nat.le_of_ble_eq_true rfl) (Nat.le_of_ble_eq_true rfl) rfl rfl (fun r3 M5 => ?_)
    refine ev_jo (fun (k1 : Int32 → zM → zO) => ∀ (w1 : Int32) (M7 : zM), zEv l G Y_X7_readName 14 0 87 [(0, .ref (G.2.1 + t)), (1, .int r1), (2, .int r2)] [.int w1] M7 (k1 w1 M7)) ?_ (fun k1 hk1 => ?_)
    · intro w1 M7
      refine ev_istore_n (i := 3) (lv' := [(0, .ref (G.2.1 + t)), (1, .int r1), (2, .int r2), (3, .int w1)]) [1, 2, 3, 0] dd_X7_readName_87 rfl (by decide) rfl ?_
      refine ev_iload_n dd_X7_readName_88 3 rfl ?_
      refine ev_jo (fun (k2 : zM → zO) => ∀  (M9 : zM), zEv l G Y_X7_readName 14 0 99 [(0, .ref (G.2.1 + t)), (1, .int r1), (2, .int r2), (3, .int w1)] [] M9 (k2 M9)) ?_ (fun k2 hk2 => ?_)
      · intro M9
        refine ev_aload_n dd_X7_readName_99 0 rfl ?_
        refine ev_getR gf_RX7_15 dd_X7_readName_100 ht (by decide) ?_
        refine ev_getR gf_RX7_92 dd_X7_readName_103 (zg_7_1 ht) (by decide) ?_
        refine ev_aload_n dd_X7_readName_106 0 rfl ?_
        refine ev_getR gf_RX7_15 dd_X7_readName_107 ht (by decide) ?_
        refine ev_getI gf_RX7_75 dd_X7_readName_110 (zg_7_1 ht) (by decide) ?_
        refine ev_iload_n dd_X7_readName_113 1 rfl ?_
        refine ev_lv (lv' := [(0, .ref (G.2.1 + t)), (2, .int r2), (3, .int w1)]) [0, 2, 3] rfl ?_
        refine ev_iast dd_X7_readName_114 ((zg_6_6 (zg_7_1 ht)).1) ((zg_6_6 (zg_7_1 ht)).2) ?_
        refine ev_st (fun M10 => ?_)
        refine ev_aload_n dd_X7_readName_115 0 rfl ?_
        refine ev_getR gf_RX7_15 dd_X7_readName_116 ht (by decide) ?_
        refine ev_getR gf_RX7_96 dd_X7_readName_119 (zg_7_1 ht) (by decide) ?_
        refine ev_aload_n dd_X7_readName_122 0 rfl ?_
        refine ev_getR gf_RX7_15 dd_X7_readName_123 ht (by decide) ?_
        refine ev_getI gf_RX7_75 dd_X7_readName_126 (zg_7_1 ht) (by decide) ?_
        refine ev_iload_n dd_X7_readName_129 1 rfl ?_
        refine ev_lv (lv' := [(0, .ref (G.2.1 + t)), (3, .int w1)]) [0, 2] rfl ?_
        refine ev_iast dd_X7_readName_130 ((zg_6_7 (zg_7_1 ht)).1) ((zg_6_7 (zg_7_1 ht)).2) ?_
        refine ev_st (fun M11 => ?_)
        refine ev_aload_n dd_X7_readName_131 0 rfl ?_
        refine ev_getR gf_RX7_15 dd_X7_readName_132 ht (by decide) ?_
        refine ev_getR gf_RX7_99 dd_X7_readName_135 (zg_7_1 ht) (by decide) ?_
        refine ev_aload_n dd_X7_readName_138 0 rfl ?_
        refine ev_getR gf_RX7_15 dd_X7_readName_139 ht (by decide) ?_
        refine ev_getI gf_RX7_75 dd_X7_readName_142 (zg_7_1 ht) (by decide) ?_
        refine ev_iload_n dd_X7_readName_145 1 rfl ?_
        refine ev_lv (lv' := [(0, .ref (G.2.1 + t))]) [0] rfl ?_
        refine ev_iast dd_X7_readName_146 ((zg_6_8 (zg_7_1 ht)).1) ((zg_6_8 (zg_7_1 ht)).2) ?_
        refine ev_st (fun M12 => ?_)
        refine ev_aload_n dd_X7_readName_147 0 rfl ?_
        refine ev_lv (lv' := []) [] rfl ?_
        refine ev_getR gf_RX7_15 dd_X7_readName_148 ht (by decide) ?_
        refine ev_dup dd_X7_readName_151 rfl ?_
        refine ev_getI gf_RX7_75 dd_X7_readName_152 (zg_7_1 ht) (by decide) ?_
        refine ev_iconst (v := 1) dd_X7_readName_155 (by decide) ?_
        refine ev_iadd dd_X7_readName_156 ?_
        refine ev_putI gw_RX7_75 dd_X7_readName_157 (zg_7_1 ht) (by decide) ?_
        refine ev_st (fun M13 => ?_)
        exact ev_vret dd_X7_readName_160 rfl (Nat.le_of_ble_eq_true rfl) rfl
      · refine ev_if_eq 99 dd_X7_readName_89 (by decide) ?_ ?_
        · exact hk2 _
        · refine ev_aload_n dd_X7_readName_92 0 rfl ?_
          refine ev_getR gf_RX7_9 dd_X7_readName_93 ht (by decide) ?_
          refine ev_callVV (As := []) cl_RX7_78 (ct_X8_step l hl G (zgr t 0) (zg_7_0 ht) M7) dd_X7_readName_96 (zg_7_0 ht) (by decide) (Nat.le_of_ble_eq_true rfl) (Nat.le_of_ble_eq_true rfl) rfl rfl (fun M8 => ?_)
          exact hk2 _
    · refine ev_if_eq 70 dd_X7_readName_63 (by decide) ?_ ?_
      · refine ev_aload_n dd_X7_readName_70 0 rfl ?_
        refine ev_getR gf_RX7_9 dd_X7_readName_71 ht (by decide) ?_
        refine ev_ldcs dd_X7_readName_74 sr_RX7_90 ?_
        refine ev_callVI (As := [.ref (G.2.2.2.1 4)]) cl_RX7_45 (ct_X8_isWord l hl G (zgr t 0) (zg_7_0 ht) 4 (by decide) M5) dd_X7_readName_76 (zg_7_0 ht) (by decide) (Nat.le_of_ble_eq_true rfl) (Nat.le_of_ble_eq_true rfl) rfl rfl (fun r4 M6 => ?_)
        refine ev_if_eq 86 dd_X7_readName_79 (by decide) ?_ ?_
        · refine ev_iconst (v := 0) dd_X7_readName_86 (by decide) ?_
          exact hk1 _ _
        · refine ev_iconst (v := 2) dd_X7_readName_82 (by decide) ?_
          refine ev_goto 87 dd_X7_readName_83 (by decide) ?_
          exact hk1 _ _
      · refine ev_iconst (v := 1) dd_X7_readName_66 (by decide) ?_
        refine ev_goto 87 dd_X7_readName_67 (by decide) ?_
        exact hk1 _ _
  · refine ev_aload_n dd_X7_readName_12 0 rfl ?_
    refine ev_lv (lv' := []) [] rfl ?_
    refine ev_getR gf_RX7_9 dd_X7_readName_13 ht (by decide) ?_
    refine ev_iconst (v := 2) dd_X7_readName_16 (by decide) ?_
    refine ev_callVV (As := [.int 2]) cl_RX7_72 (ct_X8_refuse l hl G (zgr t 0) (zg_7_0 ht) 2 M) dd_X7_readName_17 (zg_7_0 ht) (by decide) (Nat.le_of_ble_eq_true rfl) (Nat.le_of_ble_eq_true rfl) rfl rfl (fun M14 => ?_)
    exact ev_vret dd_X7_readName_20 rfl (Nat.le_of_ble_eq_true rfl) rfl
/-! X7_readSpeed -/
theorem dd_X7_readSpeed_0 : decode Y_X7_readSpeed.2.1 0 = .ok (.aload_n 0, 1) := by decide +kernel
theorem dd_X7_readSpeed_1 : decode Y_X7_readSpeed.2.1 1 = .ok (.getfield 15, 3) := by decide +kernel
theorem dd_X7_readSpeed_4 : decode Y_X7_readSpeed.2.1 4 = .ok (.getfield 148, 3) := by decide +kernel
theorem dd_X7_readSpeed_7 : decode Y_X7_readSpeed.2.1 7 = .ok (.ifCond .eq 11, 3) := by decide +kernel
theorem dd_X7_readSpeed_10 : decode Y_X7_readSpeed.2.1 10 = .ok (.aload_n 0, 1) := by decide +kernel
theorem dd_X7_readSpeed_11 : decode Y_X7_readSpeed.2.1 11 = .ok (.getfield 9, 3) := by decide +kernel
theorem dd_X7_readSpeed_14 : decode Y_X7_readSpeed.2.1 14 = .ok (.iconst 5, 1) := by decide +kernel
theorem dd_X7_readSpeed_15 : decode Y_X7_readSpeed.2.1 15 = .ok (.invokevirtual 72, 3) := by decide +kernel
theorem dd_X7_readSpeed_18 : decode Y_X7_readSpeed.2.1 18 = .ok (.aload_n 0, 1) := by decide +kernel
theorem dd_X7_readSpeed_19 : decode Y_X7_readSpeed.2.1 19 = .ok (.getfield 9, 3) := by decide +kernel
theorem dd_X7_readSpeed_22 : decode Y_X7_readSpeed.2.1 22 = .ok (.invokevirtual 78, 3) := by decide +kernel
theorem dd_X7_readSpeed_25 : decode Y_X7_readSpeed.2.1 25 = .ok (.aload_n 0, 1) := by decide +kernel
theorem dd_X7_readSpeed_26 : decode Y_X7_readSpeed.2.1 26 = .ok (.getfield 15, 3) := by decide +kernel
theorem dd_X7_readSpeed_29 : decode Y_X7_readSpeed.2.1 29 = .ok (.aload_n 0, 1) := by decide +kernel
theorem dd_X7_readSpeed_30 : decode Y_X7_readSpeed.2.1 30 = .ok (.getfield 9, 3) := by decide +kernel
theorem dd_X7_readSpeed_33 : decode Y_X7_readSpeed.2.1 33 = .ok (.iconst 1, 1) := by decide +kernel
theorem dd_X7_readSpeed_34 : decode Y_X7_readSpeed.2.1 34 = .ok (.bipush 9, 2) := by decide +kernel
theorem dd_X7_readSpeed_36 : decode Y_X7_readSpeed.2.1 36 = .ok (.invokevirtual 84, 3) := by decide +kernel
theorem dd_X7_readSpeed_39 : decode Y_X7_readSpeed.2.1 39 = .ok (.putfield 152, 3) := by decide +kernel
theorem dd_X7_readSpeed_42 : decode Y_X7_readSpeed.2.1 42 = .ok (.aload_n 0, 1) := by decide +kernel
theorem dd_X7_readSpeed_43 : decode Y_X7_readSpeed.2.1 43 = .ok (.getfield 15, 3) := by decide +kernel
theorem dd_X7_readSpeed_46 : decode Y_X7_readSpeed.2.1 46 = .ok (.iconst 1, 1) := by decide +kernel
theorem dd_X7_readSpeed_47 : decode Y_X7_readSpeed.2.1 47 = .ok (.putfield 148, 3) := by decide +kernel
theorem dd_X7_readSpeed_50 : decode Y_X7_readSpeed.2.1 50 = .ok (.return_, 1) := by decide +kernel
def F_X7_readSpeed (t : Nat) (M : zM) : zO := zjo (fun  (M2 : zM) => zbV (F_X8_step (zgr t 0) M2) (fun M3 => zbI (F_X8_takeNumber (zgr t 0) 1 9 M3) (fun r1 M4 => zst (zup M4 (zgr t 1) 2 r1) (fun M5 => zck (zbo 1) (zst (zup M5 (zgr t 1) 3 1) (fun M6 => zV M6)))))) (fun (k1 : zM → zO) => zit ((M (zgr t 1) 3) = 0) (k1 M) (zbV (F_X8_refuse (zgr t 0) 5 M) (fun M1 => k1 M1)))
set_option maxHeartbeats 1000000 in
set_option maxRecDepth 20000 in
theorem ct_X7_readSpeed (l : Launch) (hl : l.stackTraces = false) (G : zG) (t : Nat) (ht : zsh t = 7) (M : zM) : zMt l G Y_X7_readSpeed 14 [.ref (G.2.1 + t)] M (F_X7_readSpeed t M) := by
  refine zMt_of (by decide +kernel) (Nat.le_of_ble_eq_true rfl) ?_
  show zEv l G Y_X7_readSpeed 14 0 0 [(0, .ref (G.2.1 + t))] [] M (zjo (fun  (M2 : zM) => zbV (F_X8_step (zgr t 0) M2) (fun M3 => zbI (F_X8_takeNumber (zgr t 0) 1 9 M3) (fun r1 M4 => zst (zup M4 (zgr t 1) 2 r1) (fun M5 => zck (zbo 1) (zst (zup M5 (zgr t 1) 3 1) (fun M6 => zV M6)))))) (fun (k1 : zM → zO) => zit ((M (zgr t 1) 3) = 0) (k1 M) (zbV (F_X8_refuse (zgr t 0) 5 M) (fun M1 => k1 M1))))
  refine ev_aload_n dd_X7_readSpeed_0 0 rfl ?_
  refine ev_getR gf_RX7_15 dd_X7_readSpeed_1 ht (by decide) ?_
  refine ev_getI gf_RX7_148 dd_X7_readSpeed_4 (zg_7_1 ht) (by decide) ?_
  refine ev_jo (fun (k1 : zM → zO) => ∀  (M2 : zM), zEv l G Y_X7_readSpeed 14 0 18 [(0, .ref (G.2.1 + t))] [] M2 (k1 M2)) ?_ (fun k1 hk1 => ?_)
  · intro M2
    refine ev_aload_n dd_X7_readSpeed_18 0 rfl ?_
    refine ev_getR gf_RX7_9 dd_X7_readSpeed_19 ht (by decide) ?_
    refine ev_callVV (As := []) cl_RX7_78 (ct_X8_step l hl G (zgr t 0) (zg_7_0 ht) M2) dd_X7_readSpeed_22 (zg_7_0 ht) (by decide) (Nat.le_of_ble_eq_true rfl) (Nat.le_of_ble_eq_true rfl) rfl rfl (fun M3 => ?_)
    refine ev_aload_n dd_X7_readSpeed_25 0 rfl ?_
    refine ev_getR gf_RX7_15 dd_X7_readSpeed_26 ht (by decide) ?_
    refine ev_aload_n dd_X7_readSpeed_29 0 rfl ?_
    refine ev_getR gf_RX7_9 dd_X7_readSpeed_30 ht (by decide) ?_
    refine ev_iconst (v := 1) dd_X7_readSpeed_33 (by decide) ?_
    refine ev_bipush (v := 9) dd_X7_readSpeed_34 (by decide) ?_
    refine ev_callVI (As := [.int 1, .int 9]) cl_RX7_84 (ct_X8_takeNumber l hl G (zgr t 0) (zg_7_0 ht) 1 9 M3) dd_X7_readSpeed_36 (zg_7_0 ht) (by decide) (Nat.le_of_ble_eq_true rfl) (Nat.le_of_ble_eq_true rfl) rfl rfl (fun r1 M4 => ?_)
    refine ev_putI gw_RX7_152 dd_X7_readSpeed_39 (zg_7_1 ht) (by decide) ?_
    refine ev_st (fun M5 => ?_)
    refine ev_aload_n dd_X7_readSpeed_42 0 rfl ?_
    refine ev_lv (lv' := []) [] rfl ?_
    refine ev_getR gf_RX7_15 dd_X7_readSpeed_43 ht (by decide) ?_
    refine ev_iconst (v := 1) dd_X7_readSpeed_46 (by decide) ?_
    refine ev_putZ gw_RX7_148 dd_X7_readSpeed_47 (zg_7_1 ht) (by decide) ?_
    refine ev_st (fun M6 => ?_)
    exact ev_vret dd_X7_readSpeed_50 rfl (Nat.le_of_ble_eq_true rfl) rfl
  · refine ev_if_eq 18 dd_X7_readSpeed_7 (by decide) ?_ ?_
    · exact hk1 _
    · refine ev_aload_n dd_X7_readSpeed_10 0 rfl ?_
      refine ev_getR gf_RX7_9 dd_X7_readSpeed_11 ht (by decide) ?_
      refine ev_iconst (v := 5) dd_X7_readSpeed_14 (by decide) ?_
      refine ev_callVV (As := [.int 5]) cl_RX7_72 (ct_X8_refuse l hl G (zgr t 0) (zg_7_0 ht) 5 M) dd_X7_readSpeed_15 (zg_7_0 ht) (by decide) (Nat.le_of_ble_eq_true rfl) (Nat.le_of_ble_eq_true rfl) rfl rfl (fun M1 => ?_)
      exact hk1 _
/-! X7_readWishedName -/
theorem dd_X7_readWishedName_0 : decode Y_X7_readWishedName.2.1 0 = .ok (.aload_n 0, 1) := by decide +kernel
theorem dd_X7_readWishedName_1 : decode Y_X7_readWishedName.2.1 1 = .ok (.getfield 9, 3) := by decide +kernel
theorem dd_X7_readWishedName_4 : decode Y_X7_readWishedName.2.1 4 = .ok (.aload_n 0, 1) := by decide +kernel
theorem dd_X7_readWishedName_5 : decode Y_X7_readWishedName.2.1 5 = .ok (.getfield 15, 3) := by decide +kernel
theorem dd_X7_readWishedName_8 : decode Y_X7_readWishedName.2.1 8 = .ok (.getfield 75, 3) := by decide +kernel
theorem dd_X7_readWishedName_11 : decode Y_X7_readWishedName.2.1 11 = .ok (.invokevirtual 120, 3) := by decide +kernel
theorem dd_X7_readWishedName_14 : decode Y_X7_readWishedName.2.1 14 = .ok (.ifCond .ne 4, 3) := by decide +kernel
theorem dd_X7_readWishedName_17 : decode Y_X7_readWishedName.2.1 17 = .ok (.return_, 1) := by decide +kernel
theorem dd_X7_readWishedName_18 : decode Y_X7_readWishedName.2.1 18 = .ok (.iload_n 1, 1) := by decide +kernel
theorem dd_X7_readWishedName_19 : decode Y_X7_readWishedName.2.1 19 = .ok (.bipush 8, 2) := by decide +kernel
theorem dd_X7_readWishedName_21 : decode Y_X7_readWishedName.2.1 21 = .ok (.imul, 1) := by decide +kernel
theorem dd_X7_readWishedName_22 : decode Y_X7_readWishedName.2.1 22 = .ok (.aload_n 0, 1) := by decide +kernel
theorem dd_X7_readWishedName_23 : decode Y_X7_readWishedName.2.1 23 = .ok (.getfield 9, 3) := by decide +kernel
theorem dd_X7_readWishedName_26 : decode Y_X7_readWishedName.2.1 26 = .ok (.getfield 124, 3) := by decide +kernel
theorem dd_X7_readWishedName_29 : decode Y_X7_readWishedName.2.1 29 = .ok (.iadd, 1) := by decide +kernel
theorem dd_X7_readWishedName_30 : decode Y_X7_readWishedName.2.1 30 = .ok (.istore_n 2, 1) := by decide +kernel
theorem dd_X7_readWishedName_31 : decode Y_X7_readWishedName.2.1 31 = .ok (.aload_n 0, 1) := by decide +kernel
theorem dd_X7_readWishedName_32 : decode Y_X7_readWishedName.2.1 32 = .ok (.getfield 15, 3) := by decide +kernel
theorem dd_X7_readWishedName_35 : decode Y_X7_readWishedName.2.1 35 = .ok (.getfield 133, 3) := by decide +kernel
theorem dd_X7_readWishedName_38 : decode Y_X7_readWishedName.2.1 38 = .ok (.iload_n 2, 1) := by decide +kernel
theorem dd_X7_readWishedName_39 : decode Y_X7_readWishedName.2.1 39 = .ok (.iaload, 1) := by decide +kernel
theorem dd_X7_readWishedName_40 : decode Y_X7_readWishedName.2.1 40 = .ok (.ifCond .eq 11, 3) := by decide +kernel
theorem dd_X7_readWishedName_43 : decode Y_X7_readWishedName.2.1 43 = .ok (.aload_n 0, 1) := by decide +kernel
theorem dd_X7_readWishedName_44 : decode Y_X7_readWishedName.2.1 44 = .ok (.getfield 9, 3) := by decide +kernel
theorem dd_X7_readWishedName_47 : decode Y_X7_readWishedName.2.1 47 = .ok (.iconst 4, 1) := by decide +kernel
theorem dd_X7_readWishedName_48 : decode Y_X7_readWishedName.2.1 48 = .ok (.invokevirtual 72, 3) := by decide +kernel
theorem dd_X7_readWishedName_51 : decode Y_X7_readWishedName.2.1 51 = .ok (.aload_n 0, 1) := by decide +kernel
theorem dd_X7_readWishedName_52 : decode Y_X7_readWishedName.2.1 52 = .ok (.getfield 15, 3) := by decide +kernel
theorem dd_X7_readWishedName_55 : decode Y_X7_readWishedName.2.1 55 = .ok (.getfield 127, 3) := by decide +kernel
theorem dd_X7_readWishedName_58 : decode Y_X7_readWishedName.2.1 58 = .ok (.iload_n 1, 1) := by decide +kernel
theorem dd_X7_readWishedName_59 : decode Y_X7_readWishedName.2.1 59 = .ok (.dup2, 1) := by decide +kernel
theorem dd_X7_readWishedName_60 : decode Y_X7_readWishedName.2.1 60 = .ok (.iaload, 1) := by decide +kernel
theorem dd_X7_readWishedName_61 : decode Y_X7_readWishedName.2.1 61 = .ok (.iconst 1, 1) := by decide +kernel
theorem dd_X7_readWishedName_62 : decode Y_X7_readWishedName.2.1 62 = .ok (.iadd, 1) := by decide +kernel
theorem dd_X7_readWishedName_63 : decode Y_X7_readWishedName.2.1 63 = .ok (.iastore, 1) := by decide +kernel
theorem dd_X7_readWishedName_64 : decode Y_X7_readWishedName.2.1 64 = .ok (.aload_n 0, 1) := by decide +kernel
theorem dd_X7_readWishedName_65 : decode Y_X7_readWishedName.2.1 65 = .ok (.getfield 15, 3) := by decide +kernel
theorem dd_X7_readWishedName_68 : decode Y_X7_readWishedName.2.1 68 = .ok (.getfield 133, 3) := by decide +kernel
theorem dd_X7_readWishedName_71 : decode Y_X7_readWishedName.2.1 71 = .ok (.iload_n 2, 1) := by decide +kernel
theorem dd_X7_readWishedName_72 : decode Y_X7_readWishedName.2.1 72 = .ok (.aload_n 0, 1) := by decide +kernel
theorem dd_X7_readWishedName_73 : decode Y_X7_readWishedName.2.1 73 = .ok (.getfield 15, 3) := by decide +kernel
theorem dd_X7_readWishedName_76 : decode Y_X7_readWishedName.2.1 76 = .ok (.getfield 127, 3) := by decide +kernel
theorem dd_X7_readWishedName_79 : decode Y_X7_readWishedName.2.1 79 = .ok (.iload_n 1, 1) := by decide +kernel
theorem dd_X7_readWishedName_80 : decode Y_X7_readWishedName.2.1 80 = .ok (.iaload, 1) := by decide +kernel
theorem dd_X7_readWishedName_81 : decode Y_X7_readWishedName.2.1 81 = .ok (.iastore, 1) := by decide +kernel
theorem dd_X7_readWishedName_82 : decode Y_X7_readWishedName.2.1 82 = .ok (.aload_n 0, 1) := by decide +kernel
theorem dd_X7_readWishedName_83 : decode Y_X7_readWishedName.2.1 83 = .ok (.getfield 9, 3) := by decide +kernel
theorem dd_X7_readWishedName_86 : decode Y_X7_readWishedName.2.1 86 = .ok (.invokevirtual 78, 3) := by decide +kernel
theorem dd_X7_readWishedName_89 : decode Y_X7_readWishedName.2.1 89 = .ok (.return_, 1) := by decide +kernel
def F_X7_readWishedName (t : Nat) (a1 : Int32) (M : zM) : zO := zbI (F_X8_standsTold (zgr t 0) (M (zgr t 1) 0) M) (fun r1 M1 => zit (r1 = 0) (zV M1) (zlt ((a1 * 8) + (M1 (zgr t 0) 6)) (fun v1 => zck (zin v1 64) (zjo (fun  (M3 : zM) => zck (zin a1 8) (zck (zin a1 8) (zst (zup M3 (zgr (zgr t 1) 9) (zix a1) ((M3 (zgr (zgr t 1) 9) (zix a1)) + 1)) (fun M4 => zck (zin a1 8) (zck (zin v1 64) (zst (zup M4 (zgr (zgr t 1) 10) (zix v1) (M4 (zgr (zgr t 1) 9) (zix a1))) (fun M5 => zbV (F_X8_step (zgr t 0) M5) (fun M6 => zV M6)))))))) (fun (k1 : zM → zO) => zit ((M1 (zgr (zgr t 1) 10) (zix v1)) = 0) (k1 M1) (zbV (F_X8_refuse (zgr t 0) 4 M1) (fun M2 => k1 M2)))))))
set_option maxHeartbeats 1000000 in
set_option maxRecDepth 20000 in
theorem ct_X7_readWishedName (l : Launch) (hl : l.stackTraces = false) (G : zG) (t : Nat) (ht : zsh t = 7) (a1 : Int32) (M : zM) : zMt l G Y_X7_readWishedName 13 [.ref (G.2.1 + t), .int a1] M (F_X7_readWishedName t a1 M) := by
  refine zMt_of (by decide +kernel) (Nat.le_of_ble_eq_true rfl) ?_
  show zEv l G Y_X7_readWishedName 13 0 0 [(0, .ref (G.2.1 + t)), (1, .int a1)] [] M (zbI (F_X8_standsTold (zgr t 0) (M (zgr t 1) 0) M) (fun r1 M1 => zit (r1 = 0) (zV M1) (zlt ((a1 * 8) + (M1 (zgr t 0) 6)) (fun v1 => zck (zin v1 64) (zjo (fun  (M3 : zM) => zck (zin a1 8) (zck (zin a1 8) (zst (zup M3 (zgr (zgr t 1) 9) (zix a1) ((M3 (zgr (zgr t 1) 9) (zix a1)) + 1)) (fun M4 => zck (zin a1 8) (zck (zin v1 64) (zst (zup M4 (zgr (zgr t 1) 10) (zix v1) (M4 (zgr (zgr t 1) 9) (zix a1))) (fun M5 => zbV (F_X8_step (zgr t 0) M5) (fun M6 => zV M6)))))))) (fun (k1 : zM → zO) => zit ((M1 (zgr (zgr t 1) 10) (zix v1)) = 0) (k1 M1) (zbV (F_X8_refuse (zgr t 0) 4 M1) (fun M2 => k1 M2))))))))
  refine ev_aload_n dd_X7_readWishedName_0 0 rfl ?_
  refine ev_getR gf_RX7_9 dd_X7_readWishedName_1 ht (by decide) ?_
  refine ev_aload_n dd_X7_readWishedName_4 0 rfl ?_
  refine ev_getR gf_RX7_15 dd_X7_readWishedName_5 ht (by decide) ?_
  refine ev_getI gf_RX7_75 dd_X7_readWishedName_8 (zg_7_1 ht) (by decide) ?_
  refine ev_callVI (As := [.int (M (zgr t 1) 0)]) cl_RX7_120 (ct_X8_standsTold l hl G (zgr t 0) (zg_7_0 ht) (M (zgr t 1) 0) M) dd_X7_readWishedName_11 (zg_7_0 ht) (by decide) (Nat.le_of_ble_eq_true rfl) (Nat.le_of_ble_eq_true rfl) rfl rfl (fun r1 M1 => ?_)
  refine ev_if_ne 18 dd_X7_readWishedName_14 (by decide) ?_ ?_
  · refine ev_iload_n dd_X7_readWishedName_18 1 rfl ?_
    refine ev_bipush (v := 8) dd_X7_readWishedName_19 (by decide) ?_
    refine ev_imul dd_X7_readWishedName_21 ?_
    refine ev_aload_n dd_X7_readWishedName_22 0 rfl ?_
    refine ev_getR gf_RX7_9 dd_X7_readWishedName_23 ht (by decide) ?_
    refine ev_getI gf_RX7_124 dd_X7_readWishedName_26 (zg_7_0 ht) (by decide) ?_
    refine ev_iadd dd_X7_readWishedName_29 ?_
    refine ev_topi (fun v1 => ?_)
    refine ev_istore_n (i := 2) (lv' := [(0, .ref (G.2.1 + t)), (1, .int a1), (2, .int v1)]) [1, 2, 0] dd_X7_readWishedName_30 rfl (by decide) rfl ?_
    refine ev_aload_n dd_X7_readWishedName_31 0 rfl ?_
    refine ev_getR gf_RX7_15 dd_X7_readWishedName_32 ht (by decide) ?_
    refine ev_getR gf_RX7_133 dd_X7_readWishedName_35 (zg_7_1 ht) (by decide) ?_
    refine ev_iload_n dd_X7_readWishedName_38 2 rfl ?_
    refine ev_iald dd_X7_readWishedName_39 ((zg_6_10 (zg_7_1 ht)).1) ((zg_6_10 (zg_7_1 ht)).2) ?_
    refine ev_jo (fun (k1 : zM → zO) => ∀  (M3 : zM), zEv l G Y_X7_readWishedName 13 0 51 [(0, .ref (G.2.1 + t)), (1, .int a1), (2, .int v1)] [] M3 (k1 M3)) ?_ (fun k1 hk1 => ?_)
    · intro M3
      refine ev_aload_n dd_X7_readWishedName_51 0 rfl ?_
      refine ev_getR gf_RX7_15 dd_X7_readWishedName_52 ht (by decide) ?_
      refine ev_getR gf_RX7_127 dd_X7_readWishedName_55 (zg_7_1 ht) (by decide) ?_
      refine ev_iload_n dd_X7_readWishedName_58 1 rfl ?_
      refine ev_dup2 dd_X7_readWishedName_59 rfl rfl ?_
      refine ev_iald dd_X7_readWishedName_60 ((zg_6_9 (zg_7_1 ht)).1) ((zg_6_9 (zg_7_1 ht)).2) ?_
      refine ev_iconst (v := 1) dd_X7_readWishedName_61 (by decide) ?_
      refine ev_iadd dd_X7_readWishedName_62 ?_
      refine ev_iast dd_X7_readWishedName_63 ((zg_6_9 (zg_7_1 ht)).1) ((zg_6_9 (zg_7_1 ht)).2) ?_
      refine ev_st (fun M4 => ?_)
      refine ev_aload_n dd_X7_readWishedName_64 0 rfl ?_
      refine ev_getR gf_RX7_15 dd_X7_readWishedName_65 ht (by decide) ?_
      refine ev_getR gf_RX7_133 dd_X7_readWishedName_68 (zg_7_1 ht) (by decide) ?_
      refine ev_iload_n dd_X7_readWishedName_71 2 rfl ?_
      refine ev_lv (lv' := [(0, .ref (G.2.1 + t)), (1, .int a1)]) [0, 1] rfl ?_
      refine ev_aload_n dd_X7_readWishedName_72 0 rfl ?_
      refine ev_getR gf_RX7_15 dd_X7_readWishedName_73 ht (by decide) ?_
      refine ev_getR gf_RX7_127 dd_X7_readWishedName_76 (zg_7_1 ht) (by decide) ?_
      refine ev_iload_n dd_X7_readWishedName_79 1 rfl ?_
      refine ev_lv (lv' := [(0, .ref (G.2.1 + t))]) [0] rfl ?_
      refine ev_iald dd_X7_readWishedName_80 ((zg_6_9 (zg_7_1 ht)).1) ((zg_6_9 (zg_7_1 ht)).2) ?_
      refine ev_iast dd_X7_readWishedName_81 ((zg_6_10 (zg_7_1 ht)).1) ((zg_6_10 (zg_7_1 ht)).2) ?_
      refine ev_st (fun M5 => ?_)
      refine ev_aload_n dd_X7_readWishedName_82 0 rfl ?_
      refine ev_lv (lv' := []) [] rfl ?_
      refine ev_getR gf_RX7_9 dd_X7_readWishedName_83 ht (by decide) ?_
      refine ev_callVV (As := []) cl_RX7_78 (ct_X8_step l hl G (zgr t 0) (zg_7_0 ht) M5) dd_X7_readWishedName_86 (zg_7_0 ht) (by decide) (Nat.le_of_ble_eq_true rfl) (Nat.le_of_ble_eq_true rfl) rfl rfl (fun M6 => ?_)
      exact ev_vret dd_X7_readWishedName_89 rfl (Nat.le_of_ble_eq_true rfl) rfl
    · refine ev_if_eq 51 dd_X7_readWishedName_40 (by decide) ?_ ?_
      · exact hk1 _
      · refine ev_aload_n dd_X7_readWishedName_43 0 rfl ?_
        refine ev_getR gf_RX7_9 dd_X7_readWishedName_44 ht (by decide) ?_
        refine ev_iconst (v := 4) dd_X7_readWishedName_47 (by decide) ?_
        refine ev_callVV (As := [.int 4]) cl_RX7_72 (ct_X8_refuse l hl G (zgr t 0) (zg_7_0 ht) 4 M1) dd_X7_readWishedName_48 (zg_7_0 ht) (by decide) (Nat.le_of_ble_eq_true rfl) (Nat.le_of_ble_eq_true rfl) rfl rfl (fun M2 => ?_)
        exact hk1 _
  · refine ev_lv (lv' := []) [] rfl ?_
    exact ev_vret dd_X7_readWishedName_17 rfl (Nat.le_of_ble_eq_true rfl) rfl
/-! X7_readWish -/
theorem dd_X7_readWish_0 : decode Y_X7_readWish.2.1 0 = .ok (.aload_n 0, 1) := by decide +kernel
theorem dd_X7_readWish_1 : decode Y_X7_readWish.2.1 1 = .ok (.getfield 9, 3) := by decide +kernel
theorem dd_X7_readWish_4 : decode Y_X7_readWish.2.1 4 = .ok (.invokevirtual 78, 3) := by decide +kernel
theorem dd_X7_readWish_7 : decode Y_X7_readWish.2.1 7 = .ok (.aload_n 0, 1) := by decide +kernel
theorem dd_X7_readWish_8 : decode Y_X7_readWish.2.1 8 = .ok (.getfield 9, 3) := by decide +kernel
theorem dd_X7_readWish_11 : decode Y_X7_readWish.2.1 11 = .ok (.aload_n 0, 1) := by decide +kernel
theorem dd_X7_readWish_12 : decode Y_X7_readWish.2.1 12 = .ok (.getfield 15, 3) := by decide +kernel
theorem dd_X7_readWish_15 : decode Y_X7_readWish.2.1 15 = .ok (.getfield 75, 3) := by decide +kernel
theorem dd_X7_readWish_18 : decode Y_X7_readWish.2.1 18 = .ok (.invokevirtual 120, 3) := by decide +kernel
theorem dd_X7_readWish_21 : decode Y_X7_readWish.2.1 21 = .ok (.ifCond .eq 13, 3) := by decide +kernel
theorem dd_X7_readWish_24 : decode Y_X7_readWish.2.1 24 = .ok (.aload_n 0, 1) := by decide +kernel
theorem dd_X7_readWish_25 : decode Y_X7_readWish.2.1 25 = .ok (.getfield 9, 3) := by decide +kernel
theorem dd_X7_readWish_28 : decode Y_X7_readWish.2.1 28 = .ok (.getfield 124, 3) := by decide +kernel
theorem dd_X7_readWish_31 : decode Y_X7_readWish.2.1 31 = .ok (.goto 4, 3) := by decide +kernel
theorem dd_X7_readWish_34 : decode Y_X7_readWish.2.1 34 = .ok (.iconst (-1), 1) := by decide +kernel
theorem dd_X7_readWish_35 : decode Y_X7_readWish.2.1 35 = .ok (.istore_n 1, 1) := by decide +kernel
theorem dd_X7_readWish_36 : decode Y_X7_readWish.2.1 36 = .ok (.iload_n 1, 1) := by decide +kernel
theorem dd_X7_readWish_37 : decode Y_X7_readWish.2.1 37 = .ok (.iconst (-1), 1) := by decide +kernel
theorem dd_X7_readWish_38 : decode Y_X7_readWish.2.1 38 = .ok (.if_icmp .ne 4, 3) := by decide +kernel
theorem dd_X7_readWish_41 : decode Y_X7_readWish.2.1 41 = .ok (.return_, 1) := by decide +kernel
theorem dd_X7_readWish_42 : decode Y_X7_readWish.2.1 42 = .ok (.aload_n 0, 1) := by decide +kernel
theorem dd_X7_readWish_43 : decode Y_X7_readWish.2.1 43 = .ok (.getfield 15, 3) := by decide +kernel
theorem dd_X7_readWish_46 : decode Y_X7_readWish.2.1 46 = .ok (.getfield 127, 3) := by decide +kernel
theorem dd_X7_readWish_49 : decode Y_X7_readWish.2.1 49 = .ok (.iload_n 1, 1) := by decide +kernel
theorem dd_X7_readWish_50 : decode Y_X7_readWish.2.1 50 = .ok (.iaload, 1) := by decide +kernel
theorem dd_X7_readWish_51 : decode Y_X7_readWish.2.1 51 = .ok (.ifCond .le 11, 3) := by decide +kernel
theorem dd_X7_readWish_54 : decode Y_X7_readWish.2.1 54 = .ok (.aload_n 0, 1) := by decide +kernel
theorem dd_X7_readWish_55 : decode Y_X7_readWish.2.1 55 = .ok (.getfield 9, 3) := by decide +kernel
theorem dd_X7_readWish_58 : decode Y_X7_readWish.2.1 58 = .ok (.iconst 5, 1) := by decide +kernel
theorem dd_X7_readWish_59 : decode Y_X7_readWish.2.1 59 = .ok (.invokevirtual 72, 3) := by decide +kernel
theorem dd_X7_readWish_62 : decode Y_X7_readWish.2.1 62 = .ok (.aload_n 0, 1) := by decide +kernel
theorem dd_X7_readWish_63 : decode Y_X7_readWish.2.1 63 = .ok (.getfield 9, 3) := by decide +kernel
theorem dd_X7_readWish_66 : decode Y_X7_readWish.2.1 66 = .ok (.invokevirtual 78, 3) := by decide +kernel
theorem dd_X7_readWish_69 : decode Y_X7_readWish.2.1 69 = .ok (.aload_n 0, 1) := by decide +kernel
theorem dd_X7_readWish_70 : decode Y_X7_readWish.2.1 70 = .ok (.iload_n 1, 1) := by decide +kernel
theorem dd_X7_readWish_71 : decode Y_X7_readWish.2.1 71 = .ok (.invokevirtual 130, 3) := by decide +kernel
theorem dd_X7_readWish_74 : decode Y_X7_readWish.2.1 74 = .ok (.iconst 0, 1) := by decide +kernel
theorem dd_X7_readWish_75 : decode Y_X7_readWish.2.1 75 = .ok (.istore_n 2, 1) := by decide +kernel
theorem dd_X7_readWish_76 : decode Y_X7_readWish.2.1 76 = .ok (.iload_n 2, 1) := by decide +kernel
theorem dd_X7_readWish_77 : decode Y_X7_readWish.2.1 77 = .ok (.bipush 8, 2) := by decide +kernel
theorem dd_X7_readWish_79 : decode Y_X7_readWish.2.1 79 = .ok (.if_icmp .ge 27, 3) := by decide +kernel
theorem dd_X7_readWish_82 : decode Y_X7_readWish.2.1 82 = .ok (.aload_n 0, 1) := by decide +kernel
theorem dd_X7_readWish_83 : decode Y_X7_readWish.2.1 83 = .ok (.getfield 9, 3) := by decide +kernel
theorem dd_X7_readWish_86 : decode Y_X7_readWish.2.1 86 = .ok (.getfield 34, 3) := by decide +kernel
theorem dd_X7_readWish_89 : decode Y_X7_readWish.2.1 89 = .ok (.sipush 258, 3) := by decide +kernel
theorem dd_X7_readWish_92 : decode Y_X7_readWish.2.1 92 = .ok (.if_icmp .ne 14, 3) := by decide +kernel
theorem dd_X7_readWish_95 : decode Y_X7_readWish.2.1 95 = .ok (.aload_n 0, 1) := by decide +kernel
theorem dd_X7_readWish_96 : decode Y_X7_readWish.2.1 96 = .ok (.iload_n 1, 1) := by decide +kernel
theorem dd_X7_readWish_97 : decode Y_X7_readWish.2.1 97 = .ok (.invokevirtual 130, 3) := by decide +kernel
theorem dd_X7_readWish_100 : decode Y_X7_readWish.2.1 100 = .ok (.iinc 2 1, 3) := by decide +kernel
theorem dd_X7_readWish_103 : decode Y_X7_readWish.2.1 103 = .ok (.goto (-27), 3) := by decide +kernel
theorem dd_X7_readWish_106 : decode Y_X7_readWish.2.1 106 = .ok (.return_, 1) := by decide +kernel
def F_X7_readWish_L76 (x0 : Nat) (x1 : Int32) (K106 : zM → zO) : Nat → Int32 → zM → zO
  | 0, _, _ => none
  | n + 1, x2, M => zit (8 ≤ x2) (K106 M) (zit ((M (zgr x0 0) 3) = 258) (zbV (F_X7_readWishedName x0 x1 M) (fun M8 => F_X7_readWish_L76 x0 x1 K106 n (x2 + 1) M8)) (K106 M))
def F_X7_readWish (t : Nat) (M : zM) : zO := zbV (F_X8_step (zgr t 0) M) (fun M1 => zbI (F_X8_standsTold (zgr t 0) (M1 (zgr t 1) 0) M1) (fun r1 M2 => zjo (fun (w1 : Int32) (M3 : zM) => zit (w1 = (-1)) (zV M3) (zck (zin w1 8) (zjo (fun  (M5 : zM) => zbV (F_X8_step (zgr t 0) M5) (fun M6 => zbV (F_X7_readWishedName t w1 M6) (fun M7 => F_X7_readWish_L76 t w1 (fun  (M9 : zM) => zV M9) zN 0 M7))) (fun (k2 : zM → zO) => zit ((M3 (zgr (zgr t 1) 9) (zix w1)) ≤ 0) (k2 M3) (zbV (F_X8_refuse (zgr t 0) 5 M3) (fun M4 => k2 M4)))))) (fun (k1 : Int32 → zM → zO) => zit (r1 = 0) (k1 (-1) M2) (k1 (M2 (zgr t 0) 6) M2))))
set_option maxHeartbeats 1000000 in
set_option maxRecDepth 20000 in
theorem ct_X7_readWish_L76 (l : Launch) (hl : l.stackTraces = false) (G : zG) (x0 : Nat) (hx0 : zsh x0 = 7) (x1 : Int32) (K106 : zM → zO) (hK106 : ∀  (M : zM), zEv l G Y_X7_readWish 14 0 106 [] [] M (K106 M)) : ∀ (n : Nat) (x2 : Int32) (M : zM), zEv l G Y_X7_readWish 14 0 76 [(0, .ref (G.2.1 + x0)), (1, .int x1), (2, .int x2)] [] M (F_X7_readWish_L76 x0 x1 K106 n x2 M) := by
  intro n
  induction n with
  | zero => intro x2 M; exact ev_none
  | succ n ih =>
    intro x2 M
    show zEv l G Y_X7_readWish 14 0 76 [(0, .ref (G.2.1 + x0)), (1, .int x1), (2, .int x2)] [] M (zit (8 ≤ x2) (K106 M) (zit ((M (zgr x0 0) 3) = 258) (zbV (F_X7_readWishedName x0 x1 M) (fun M8 => F_X7_readWish_L76 x0 x1 K106 n (x2 + 1) M8)) (K106 M)))
    refine ev_iload_n dd_X7_readWish_76 2 rfl ?_
    refine ev_bipush (v := 8) dd_X7_readWish_77 (by decide) ?_
    refine ev_icmp_ge 106 dd_X7_readWish_79 (by decide) ?_ ?_
    · refine ev_lv (lv' := []) [] rfl ?_
      exact hK106 _
    · refine ev_aload_n dd_X7_readWish_82 0 rfl ?_
      refine ev_getR gf_RX7_9 dd_X7_readWish_83 hx0 (by decide) ?_
      refine ev_getI gf_RX7_34 dd_X7_readWish_86 (zg_7_0 hx0) (by decide) ?_
      refine ev_sipush (v := 258) dd_X7_readWish_89 (by decide) ?_
      refine ev_icmp_ne 106 dd_X7_readWish_92 (by decide) ?_ ?_
      · refine ev_lv (lv' := []) [] rfl ?_
        exact hK106 _
      · refine ev_aload_n dd_X7_readWish_95 0 rfl ?_
        refine ev_iload_n dd_X7_readWish_96 1 rfl ?_
        refine ev_callVV (As := [.int x1]) cl_RX7_130 (ct_X7_readWishedName l hl G x0 hx0 x1 M) dd_X7_readWish_97 hx0 (by decide) (Nat.le_of_ble_eq_true rfl) (Nat.le_of_ble_eq_true rfl) rfl rfl (fun M8 => ?_)
        refine ev_iinc (j := 2) (v := 1) (lv' := [(0, .ref (G.2.1 + x0)), (1, .int x1), (2, .int (x2 + 1))]) [1, 2, 0] dd_X7_readWish_100 rfl (by decide) (by decide) rfl ?_
        refine ev_goto 76 dd_X7_readWish_103 (by decide) ?_
        exact ih _ _
set_option maxHeartbeats 1000000 in
set_option maxRecDepth 20000 in
theorem ct_X7_readWish (l : Launch) (hl : l.stackTraces = false) (G : zG) (t : Nat) (ht : zsh t = 7) (M : zM) : zMt l G Y_X7_readWish 14 [.ref (G.2.1 + t)] M (F_X7_readWish t M) := by
  refine zMt_of (by decide +kernel) (Nat.le_of_ble_eq_true rfl) ?_
  show zEv l G Y_X7_readWish 14 0 0 [(0, .ref (G.2.1 + t))] [] M (zbV (F_X8_step (zgr t 0) M) (fun M1 => zbI (F_X8_standsTold (zgr t 0) (M1 (zgr t 1) 0) M1) (fun r1 M2 => zjo (fun (w1 : Int32) (M3 : zM) => zit (w1 = (-1)) (zV M3) (zck (zin w1 8) (zjo (fun  (M5 : zM) => zbV (F_X8_step (zgr t 0) M5) (fun M6 => zbV (F_X7_readWishedName t w1 M6) (fun M7 => F_X7_readWish_L76 t w1 (fun  (M9 : zM) => zV M9) zN 0 M7))) (fun (k2 : zM → zO) => zit ((M3 (zgr (zgr t 1) 9) (zix w1)) ≤ 0) (k2 M3) (zbV (F_X8_refuse (zgr t 0) 5 M3) (fun M4 => k2 M4)))))) (fun (k1 : Int32 → zM → zO) => zit (r1 = 0) (k1 (-1) M2) (k1 (M2 (zgr t 0) 6) M2)))))
  refine ev_aload_n dd_X7_readWish_0 0 rfl ?_
  refine ev_getR gf_RX7_9 dd_X7_readWish_1 ht (by decide) ?_
  refine ev_callVV (As := []) cl_RX7_78 (ct_X8_step l hl G (zgr t 0) (zg_7_0 ht) M) dd_X7_readWish_4 (zg_7_0 ht) (by decide) (Nat.le_of_ble_eq_true rfl) (Nat.le_of_ble_eq_true rfl) rfl rfl (fun M1 => ?_)
  refine ev_aload_n dd_X7_readWish_7 0 rfl ?_
  refine ev_getR gf_RX7_9 dd_X7_readWish_8 ht (by decide) ?_
  refine ev_aload_n dd_X7_readWish_11 0 rfl ?_
  refine ev_getR gf_RX7_15 dd_X7_readWish_12 ht (by decide) ?_
  refine ev_getI gf_RX7_75 dd_X7_readWish_15 (zg_7_1 ht) (by decide) ?_
  refine ev_callVI (As := [.int (M1 (zgr t 1) 0)]) cl_RX7_120 (ct_X8_standsTold l hl G (zgr t 0) (zg_7_0 ht) (M1 (zgr t 1) 0) M1) dd_X7_readWish_18 (zg_7_0 ht) (by decide) (Nat.le_of_ble_eq_true rfl) (Nat.le_of_ble_eq_true rfl) rfl rfl (fun r1 M2 => ?_)
  refine ev_jo (fun (k1 : Int32 → zM → zO) => ∀ (w1 : Int32) (M3 : zM), zEv l G Y_X7_readWish 14 0 35 [(0, .ref (G.2.1 + t))] [.int w1] M3 (k1 w1 M3)) ?_ (fun k1 hk1 => ?_)
  · intro w1 M3
    refine ev_istore_n (i := 1) (lv' := [(0, .ref (G.2.1 + t)), (1, .int w1)]) [1, 0] dd_X7_readWish_35 rfl (by decide) rfl ?_
    refine ev_iload_n dd_X7_readWish_36 1 rfl ?_
    refine ev_iconst (v := (-1)) dd_X7_readWish_37 (by decide) ?_
    refine ev_icmp_ne 42 dd_X7_readWish_38 (by decide) ?_ ?_
    · refine ev_aload_n dd_X7_readWish_42 0 rfl ?_
      refine ev_getR gf_RX7_15 dd_X7_readWish_43 ht (by decide) ?_
      refine ev_getR gf_RX7_127 dd_X7_readWish_46 (zg_7_1 ht) (by decide) ?_
      refine ev_iload_n dd_X7_readWish_49 1 rfl ?_
      refine ev_iald dd_X7_readWish_50 ((zg_6_9 (zg_7_1 ht)).1) ((zg_6_9 (zg_7_1 ht)).2) ?_
      refine ev_jo (fun (k2 : zM → zO) => ∀  (M5 : zM), zEv l G Y_X7_readWish 14 0 62 [(0, .ref (G.2.1 + t)), (1, .int w1)] [] M5 (k2 M5)) ?_ (fun k2 hk2 => ?_)
      · intro M5
        refine ev_aload_n dd_X7_readWish_62 0 rfl ?_
        refine ev_getR gf_RX7_9 dd_X7_readWish_63 ht (by decide) ?_
        refine ev_callVV (As := []) cl_RX7_78 (ct_X8_step l hl G (zgr t 0) (zg_7_0 ht) M5) dd_X7_readWish_66 (zg_7_0 ht) (by decide) (Nat.le_of_ble_eq_true rfl) (Nat.le_of_ble_eq_true rfl) rfl rfl (fun M6 => ?_)
        refine ev_aload_n dd_X7_readWish_69 0 rfl ?_
        refine ev_iload_n dd_X7_readWish_70 1 rfl ?_
        refine ev_callVV (As := [.int w1]) cl_RX7_130 (ct_X7_readWishedName l hl G t ht w1 M6) dd_X7_readWish_71 ht (by decide) (Nat.le_of_ble_eq_true rfl) (Nat.le_of_ble_eq_true rfl) rfl rfl (fun M7 => ?_)
        refine ev_iconst (v := 0) dd_X7_readWish_74 (by decide) ?_
        refine ev_istore_n (i := 2) (lv' := [(0, .ref (G.2.1 + t)), (1, .int w1), (2, .int 0)]) [1, 2, 0] dd_X7_readWish_75 rfl (by decide) rfl ?_
        refine ct_X7_readWish_L76 l hl G t ht w1 _ (fun M9 => ?_) zN _ _
        exact ev_vret dd_X7_readWish_106 rfl (Nat.le_of_ble_eq_true rfl) rfl
      · refine ev_if_le 62 dd_X7_readWish_51 (by decide) ?_ ?_
        · exact hk2 _
        · refine ev_aload_n dd_X7_readWish_54 0 rfl ?_
          refine ev_getR gf_RX7_9 dd_X7_readWish_55 ht (by decide) ?_
          refine ev_iconst (v := 5) dd_X7_readWish_58 (by decide) ?_
          refine ev_callVV (As := [.int 5]) cl_RX7_72 (ct_X8_refuse l hl G (zgr t 0) (zg_7_0 ht) 5 M3) dd_X7_readWish_59 (zg_7_0 ht) (by decide) (Nat.le_of_ble_eq_true rfl) (Nat.le_of_ble_eq_true rfl) rfl rfl (fun M4 => ?_)
          exact hk2 _
    · refine ev_lv (lv' := []) [] rfl ?_
      exact ev_vret dd_X7_readWish_41 rfl (Nat.le_of_ble_eq_true rfl) rfl
  · refine ev_if_eq 34 dd_X7_readWish_21 (by decide) ?_ ?_
    · refine ev_iconst (v := (-1)) dd_X7_readWish_34 (by decide) ?_
      exact hk1 _ _
    · refine ev_aload_n dd_X7_readWish_24 0 rfl ?_
      refine ev_getR gf_RX7_9 dd_X7_readWish_25 ht (by decide) ?_
      refine ev_getI gf_RX7_124 dd_X7_readWish_28 (zg_7_0 ht) (by decide) ?_
      refine ev_goto 35 dd_X7_readWish_31 (by decide) ?_
      exact hk1 _ _
/-! X7_readLine -/
theorem dd_X7_readLine_0 : decode Y_X7_readLine.2.1 0 = .ok (.aload_n 0, 1) := by decide +kernel
theorem dd_X7_readLine_1 : decode Y_X7_readLine.2.1 1 = .ok (.getfield 9, 3) := by decide +kernel
theorem dd_X7_readLine_4 : decode Y_X7_readLine.2.1 4 = .ok (.ldc 43, 2) := by decide +kernel
theorem dd_X7_readLine_6 : decode Y_X7_readLine.2.1 6 = .ok (.invokevirtual 45, 3) := by decide +kernel
theorem dd_X7_readLine_9 : decode Y_X7_readLine.2.1 9 = .ok (.ifCond .eq 10, 3) := by decide +kernel
theorem dd_X7_readLine_12 : decode Y_X7_readLine.2.1 12 = .ok (.aload_n 0, 1) := by decide +kernel
theorem dd_X7_readLine_13 : decode Y_X7_readLine.2.1 13 = .ok (.invokevirtual 49, 3) := by decide +kernel
theorem dd_X7_readLine_16 : decode Y_X7_readLine.2.1 16 = .ok (.goto 87, 3) := by decide +kernel
theorem dd_X7_readLine_19 : decode Y_X7_readLine.2.1 19 = .ok (.aload_n 0, 1) := by decide +kernel
theorem dd_X7_readLine_20 : decode Y_X7_readLine.2.1 20 = .ok (.getfield 9, 3) := by decide +kernel
theorem dd_X7_readLine_23 : decode Y_X7_readLine.2.1 23 = .ok (.ldc 52, 2) := by decide +kernel
theorem dd_X7_readLine_25 : decode Y_X7_readLine.2.1 25 = .ok (.invokevirtual 45, 3) := by decide +kernel
theorem dd_X7_readLine_28 : decode Y_X7_readLine.2.1 28 = .ok (.ifCond .eq 10, 3) := by decide +kernel
theorem dd_X7_readLine_31 : decode Y_X7_readLine.2.1 31 = .ok (.aload_n 0, 1) := by decide +kernel
theorem dd_X7_readLine_32 : decode Y_X7_readLine.2.1 32 = .ok (.invokevirtual 54, 3) := by decide +kernel
theorem dd_X7_readLine_35 : decode Y_X7_readLine.2.1 35 = .ok (.goto 68, 3) := by decide +kernel
theorem dd_X7_readLine_38 : decode Y_X7_readLine.2.1 38 = .ok (.aload_n 0, 1) := by decide +kernel
theorem dd_X7_readLine_39 : decode Y_X7_readLine.2.1 39 = .ok (.getfield 9, 3) := by decide +kernel
theorem dd_X7_readLine_42 : decode Y_X7_readLine.2.1 42 = .ok (.ldc 57, 2) := by decide +kernel
theorem dd_X7_readLine_44 : decode Y_X7_readLine.2.1 44 = .ok (.invokevirtual 45, 3) := by decide +kernel
theorem dd_X7_readLine_47 : decode Y_X7_readLine.2.1 47 = .ok (.ifCond .eq 10, 3) := by decide +kernel
theorem dd_X7_readLine_50 : decode Y_X7_readLine.2.1 50 = .ok (.aload_n 0, 1) := by decide +kernel
theorem dd_X7_readLine_51 : decode Y_X7_readLine.2.1 51 = .ok (.invokevirtual 59, 3) := by decide +kernel
theorem dd_X7_readLine_54 : decode Y_X7_readLine.2.1 54 = .ok (.goto 49, 3) := by decide +kernel
theorem dd_X7_readLine_57 : decode Y_X7_readLine.2.1 57 = .ok (.aload_n 0, 1) := by decide +kernel
theorem dd_X7_readLine_58 : decode Y_X7_readLine.2.1 58 = .ok (.getfield 9, 3) := by decide +kernel
theorem dd_X7_readLine_61 : decode Y_X7_readLine.2.1 61 = .ok (.ldc 62, 2) := by decide +kernel
theorem dd_X7_readLine_63 : decode Y_X7_readLine.2.1 63 = .ok (.invokevirtual 45, 3) := by decide +kernel
theorem dd_X7_readLine_66 : decode Y_X7_readLine.2.1 66 = .ok (.ifCond .eq 10, 3) := by decide +kernel
theorem dd_X7_readLine_69 : decode Y_X7_readLine.2.1 69 = .ok (.aload_n 0, 1) := by decide +kernel
theorem dd_X7_readLine_70 : decode Y_X7_readLine.2.1 70 = .ok (.invokevirtual 64, 3) := by decide +kernel
theorem dd_X7_readLine_73 : decode Y_X7_readLine.2.1 73 = .ok (.goto 30, 3) := by decide +kernel
theorem dd_X7_readLine_76 : decode Y_X7_readLine.2.1 76 = .ok (.aload_n 0, 1) := by decide +kernel
theorem dd_X7_readLine_77 : decode Y_X7_readLine.2.1 77 = .ok (.getfield 9, 3) := by decide +kernel
theorem dd_X7_readLine_80 : decode Y_X7_readLine.2.1 80 = .ok (.ldc 67, 2) := by decide +kernel
theorem dd_X7_readLine_82 : decode Y_X7_readLine.2.1 82 = .ok (.invokevirtual 45, 3) := by decide +kernel
theorem dd_X7_readLine_85 : decode Y_X7_readLine.2.1 85 = .ok (.ifCond .eq 10, 3) := by decide +kernel
theorem dd_X7_readLine_88 : decode Y_X7_readLine.2.1 88 = .ok (.aload_n 0, 1) := by decide +kernel
theorem dd_X7_readLine_89 : decode Y_X7_readLine.2.1 89 = .ok (.invokevirtual 69, 3) := by decide +kernel
theorem dd_X7_readLine_92 : decode Y_X7_readLine.2.1 92 = .ok (.goto 11, 3) := by decide +kernel
theorem dd_X7_readLine_95 : decode Y_X7_readLine.2.1 95 = .ok (.aload_n 0, 1) := by decide +kernel
theorem dd_X7_readLine_96 : decode Y_X7_readLine.2.1 96 = .ok (.getfield 9, 3) := by decide +kernel
theorem dd_X7_readLine_99 : decode Y_X7_readLine.2.1 99 = .ok (.iconst 1, 1) := by decide +kernel
theorem dd_X7_readLine_100 : decode Y_X7_readLine.2.1 100 = .ok (.invokevirtual 72, 3) := by decide +kernel
theorem dd_X7_readLine_103 : decode Y_X7_readLine.2.1 103 = .ok (.return_, 1) := by decide +kernel
def F_X7_readLine (t : Nat) (M : zM) : zO := zbI (F_X8_isWord (zgr t 0) 2 M) (fun r1 M1 => zjo (fun  (M12 : zM) => zV M12) (fun (k1 : zM → zO) => zit (r1 = 0) (zbI (F_X8_isWord (zgr t 0) 5 M1) (fun r2 M2 => zit (r2 = 0) (zbI (F_X8_isWord (zgr t 0) 6 M2) (fun r3 M3 => zit (r3 = 0) (zbI (F_X8_isWord (zgr t 0) 7 M3) (fun r4 M4 => zit (r4 = 0) (zbI (F_X8_isWord (zgr t 0) 8 M4) (fun r5 M5 => zit (r5 = 0) (zbV (F_X8_refuse (zgr t 0) 1 M5) (fun M6 => k1 M6)) (zbV (F_X7_readLaw t M5) (fun M7 => k1 M7)))) (zbV (F_X7_readSpeed t M4) (fun M8 => k1 M8)))) (zbV (F_X7_readFair t M3) (fun M9 => k1 M9)))) (zbV (F_X7_readWish t M2) (fun M10 => k1 M10)))) (zbV (F_X7_readName t M1) (fun M11 => k1 M11))))
set_option maxHeartbeats 1000000 in
set_option maxRecDepth 20000 in
theorem ct_X7_readLine (l : Launch) (hl : l.stackTraces = false) (G : zG) (t : Nat) (ht : zsh t = 7) (M : zM) : zMt l G Y_X7_readLine 182 [.ref (G.2.1 + t)] M (F_X7_readLine t M) := by
  refine zMt_of (by decide +kernel) (Nat.le_of_ble_eq_true rfl) ?_
  show zEv l G Y_X7_readLine 182 0 0 [(0, .ref (G.2.1 + t))] [] M (zbI (F_X8_isWord (zgr t 0) 2 M) (fun r1 M1 => zjo (fun  (M12 : zM) => zV M12) (fun (k1 : zM → zO) => zit (r1 = 0) (zbI (F_X8_isWord (zgr t 0) 5 M1) (fun r2 M2 => zit (r2 = 0) (zbI (F_X8_isWord (zgr t 0) 6 M2) (fun r3 M3 => zit (r3 = 0) (zbI (F_X8_isWord (zgr t 0) 7 M3) (fun r4 M4 => zit (r4 = 0) (zbI (F_X8_isWord (zgr t 0) 8 M4) (fun r5 M5 => zit (r5 = 0) (zbV (F_X8_refuse (zgr t 0) 1 M5) (fun M6 => k1 M6)) (zbV (F_X7_readLaw t M5) (fun M7 => k1 M7)))) (zbV (F_X7_readSpeed t M4) (fun M8 => k1 M8)))) (zbV (F_X7_readFair t M3) (fun M9 => k1 M9)))) (zbV (F_X7_readWish t M2) (fun M10 => k1 M10)))) (zbV (F_X7_readName t M1) (fun M11 => k1 M11)))))
  refine ev_aload_n dd_X7_readLine_0 0 rfl ?_
  refine ev_getR gf_RX7_9 dd_X7_readLine_1 ht (by decide) ?_
  refine ev_ldcs dd_X7_readLine_4 sr_RX7_43 ?_
  refine ev_callVI (As := [.ref (G.2.2.2.1 2)]) cl_RX7_45 (ct_X8_isWord l hl G (zgr t 0) (zg_7_0 ht) 2 (by decide) M) dd_X7_readLine_6 (zg_7_0 ht) (by decide) (Nat.le_of_ble_eq_true rfl) (Nat.le_of_ble_eq_true rfl) rfl rfl (fun r1 M1 => ?_)
  refine ev_jo (fun (k1 : zM → zO) => ∀  (M12 : zM), zEv l G Y_X7_readLine 182 0 103 [] [] M12 (k1 M12)) ?_ (fun k1 hk1 => ?_)
  · intro M12
    exact ev_vret dd_X7_readLine_103 rfl (Nat.le_of_ble_eq_true rfl) rfl
  · refine ev_if_eq 19 dd_X7_readLine_9 (by decide) ?_ ?_
    · refine ev_aload_n dd_X7_readLine_19 0 rfl ?_
      refine ev_getR gf_RX7_9 dd_X7_readLine_20 ht (by decide) ?_
      refine ev_ldcs dd_X7_readLine_23 sr_RX7_52 ?_
      refine ev_callVI (As := [.ref (G.2.2.2.1 5)]) cl_RX7_45 (ct_X8_isWord l hl G (zgr t 0) (zg_7_0 ht) 5 (by decide) M1) dd_X7_readLine_25 (zg_7_0 ht) (by decide) (Nat.le_of_ble_eq_true rfl) (Nat.le_of_ble_eq_true rfl) rfl rfl (fun r2 M2 => ?_)
      refine ev_if_eq 38 dd_X7_readLine_28 (by decide) ?_ ?_
      · refine ev_aload_n dd_X7_readLine_38 0 rfl ?_
        refine ev_getR gf_RX7_9 dd_X7_readLine_39 ht (by decide) ?_
        refine ev_ldcs dd_X7_readLine_42 sr_RX7_57 ?_
        refine ev_callVI (As := [.ref (G.2.2.2.1 6)]) cl_RX7_45 (ct_X8_isWord l hl G (zgr t 0) (zg_7_0 ht) 6 (by decide) M2) dd_X7_readLine_44 (zg_7_0 ht) (by decide) (Nat.le_of_ble_eq_true rfl) (Nat.le_of_ble_eq_true rfl) rfl rfl (fun r3 M3 => ?_)
        refine ev_if_eq 57 dd_X7_readLine_47 (by decide) ?_ ?_
        · refine ev_aload_n dd_X7_readLine_57 0 rfl ?_
          refine ev_getR gf_RX7_9 dd_X7_readLine_58 ht (by decide) ?_
          refine ev_ldcs dd_X7_readLine_61 sr_RX7_62 ?_
          refine ev_callVI (As := [.ref (G.2.2.2.1 7)]) cl_RX7_45 (ct_X8_isWord l hl G (zgr t 0) (zg_7_0 ht) 7 (by decide) M3) dd_X7_readLine_63 (zg_7_0 ht) (by decide) (Nat.le_of_ble_eq_true rfl) (Nat.le_of_ble_eq_true rfl) rfl rfl (fun r4 M4 => ?_)
          refine ev_if_eq 76 dd_X7_readLine_66 (by decide) ?_ ?_
          · refine ev_aload_n dd_X7_readLine_76 0 rfl ?_
            refine ev_getR gf_RX7_9 dd_X7_readLine_77 ht (by decide) ?_
            refine ev_ldcs dd_X7_readLine_80 sr_RX7_67 ?_
            refine ev_callVI (As := [.ref (G.2.2.2.1 8)]) cl_RX7_45 (ct_X8_isWord l hl G (zgr t 0) (zg_7_0 ht) 8 (by decide) M4) dd_X7_readLine_82 (zg_7_0 ht) (by decide) (Nat.le_of_ble_eq_true rfl) (Nat.le_of_ble_eq_true rfl) rfl rfl (fun r5 M5 => ?_)
            refine ev_if_eq 95 dd_X7_readLine_85 (by decide) ?_ ?_
            · refine ev_aload_n dd_X7_readLine_95 0 rfl ?_
              refine ev_lv (lv' := []) [] rfl ?_
              refine ev_getR gf_RX7_9 dd_X7_readLine_96 ht (by decide) ?_
              refine ev_iconst (v := 1) dd_X7_readLine_99 (by decide) ?_
              refine ev_callVV (As := [.int 1]) cl_RX7_72 (ct_X8_refuse l hl G (zgr t 0) (zg_7_0 ht) 1 M5) dd_X7_readLine_100 (zg_7_0 ht) (by decide) (Nat.le_of_ble_eq_true rfl) (Nat.le_of_ble_eq_true rfl) rfl rfl (fun M6 => ?_)
              exact hk1 _
            · refine ev_aload_n dd_X7_readLine_88 0 rfl ?_
              refine ev_lv (lv' := []) [] rfl ?_
              refine ev_callVV (As := []) cl_RX7_69 (ct_X7_readLaw l hl G t ht M5) dd_X7_readLine_89 ht (by decide) (Nat.le_of_ble_eq_true rfl) (Nat.le_of_ble_eq_true rfl) rfl rfl (fun M7 => ?_)
              refine ev_goto 103 dd_X7_readLine_92 (by decide) ?_
              exact hk1 _
          · refine ev_aload_n dd_X7_readLine_69 0 rfl ?_
            refine ev_lv (lv' := []) [] rfl ?_
            refine ev_callVV (As := []) cl_RX7_64 (ct_X7_readSpeed l hl G t ht M4) dd_X7_readLine_70 ht (by decide) (Nat.le_of_ble_eq_true rfl) (Nat.le_of_ble_eq_true rfl) rfl rfl (fun M8 => ?_)
            refine ev_goto 103 dd_X7_readLine_73 (by decide) ?_
            exact hk1 _
        · refine ev_aload_n dd_X7_readLine_50 0 rfl ?_
          refine ev_lv (lv' := []) [] rfl ?_
          refine ev_callVV (As := []) cl_RX7_59 (ct_X7_readFair l hl G t ht M3) dd_X7_readLine_51 ht (by decide) (Nat.le_of_ble_eq_true rfl) (Nat.le_of_ble_eq_true rfl) rfl rfl (fun M9 => ?_)
          refine ev_goto 103 dd_X7_readLine_54 (by decide) ?_
          exact hk1 _
      · refine ev_aload_n dd_X7_readLine_31 0 rfl ?_
        refine ev_lv (lv' := []) [] rfl ?_
        refine ev_callVV (As := []) cl_RX7_54 (ct_X7_readWish l hl G t ht M2) dd_X7_readLine_32 ht (by decide) (Nat.le_of_ble_eq_true rfl) (Nat.le_of_ble_eq_true rfl) rfl rfl (fun M10 => ?_)
        refine ev_goto 103 dd_X7_readLine_35 (by decide) ?_
        exact hk1 _
    · refine ev_aload_n dd_X7_readLine_12 0 rfl ?_
      refine ev_lv (lv' := []) [] rfl ?_
      refine ev_callVV (As := []) cl_RX7_49 (ct_X7_readName l hl G t ht M1) dd_X7_readLine_13 ht (by decide) (Nat.le_of_ble_eq_true rfl) (Nat.le_of_ble_eq_true rfl) rfl rfl (fun M11 => ?_)
      refine ev_goto 103 dd_X7_readLine_16 (by decide) ?_
      exact hk1 _
/-! X8_open -/
theorem dd_X8_open_0 : decode Y_X8_open.2.1 0 = .ok (.aload_n 0, 1) := by decide +kernel
theorem dd_X8_open_1 : decode Y_X8_open.2.1 1 = .ok (.iload_n 1, 1) := by decide +kernel
theorem dd_X8_open_2 : decode Y_X8_open.2.1 2 = .ok (.putfield 19, 3) := by decide +kernel
theorem dd_X8_open_5 : decode Y_X8_open.2.1 5 = .ok (.aload_n 0, 1) := by decide +kernel
theorem dd_X8_open_6 : decode Y_X8_open.2.1 6 = .ok (.iconst 0, 1) := by decide +kernel
theorem dd_X8_open_7 : decode Y_X8_open.2.1 7 = .ok (.putfield 28, 3) := by decide +kernel
theorem dd_X8_open_10 : decode Y_X8_open.2.1 10 = .ok (.aload_n 0, 1) := by decide +kernel
theorem dd_X8_open_11 : decode Y_X8_open.2.1 11 = .ok (.iconst 0, 1) := by decide +kernel
theorem dd_X8_open_12 : decode Y_X8_open.2.1 12 = .ok (.putfield 34, 3) := by decide +kernel
theorem dd_X8_open_15 : decode Y_X8_open.2.1 15 = .ok (.aload_n 0, 1) := by decide +kernel
theorem dd_X8_open_16 : decode Y_X8_open.2.1 16 = .ok (.iconst (-1), 1) := by decide +kernel
theorem dd_X8_open_17 : decode Y_X8_open.2.1 17 = .ok (.putfield 37, 3) := by decide +kernel
theorem dd_X8_open_20 : decode Y_X8_open.2.1 20 = .ok (.aload_n 0, 1) := by decide +kernel
theorem dd_X8_open_21 : decode Y_X8_open.2.1 21 = .ok (.invokevirtual 40, 3) := by decide +kernel
theorem dd_X8_open_24 : decode Y_X8_open.2.1 24 = .ok (.return_, 1) := by decide +kernel
def F_X8_open (t : Nat) (a1 : Int32) (M : zM) : zO := zst (zup M t 2 a1) (fun M1 => zst (zup M1 t 5 0) (fun M2 => zst (zup M2 t 7 0) (fun M3 => zst (zup M3 t 8 (-1)) (fun M4 => zbV (F_X8_step t M4) (fun M5 => zV M5)))))
set_option maxHeartbeats 1000000 in
set_option maxRecDepth 20000 in
theorem ct_X8_open (l : Launch) (hl : l.stackTraces = false) (G : zG) (t : Nat) (ht : zsh t = 8) (a1 : Int32) (M : zM) : zMt l G Y_X8_open 13 [.ref (G.2.1 + t), .int a1] M (F_X8_open t a1 M) := by
  refine zMt_of (by decide +kernel) (Nat.le_of_ble_eq_true rfl) ?_
  show zEv l G Y_X8_open 13 0 0 [(0, .ref (G.2.1 + t)), (1, .int a1)] [] M (zst (zup M t 2 a1) (fun M1 => zst (zup M1 t 5 0) (fun M2 => zst (zup M2 t 7 0) (fun M3 => zst (zup M3 t 8 (-1)) (fun M4 => zbV (F_X8_step t M4) (fun M5 => zV M5))))))
  refine ev_aload_n dd_X8_open_0 0 rfl ?_
  refine ev_iload_n dd_X8_open_1 1 rfl ?_
  refine ev_lv (lv' := [(0, .ref (G.2.1 + t))]) [0] rfl ?_
  refine ev_putI gw_RX8_19 dd_X8_open_2 ht (by decide) ?_
  refine ev_st (fun M1 => ?_)
  refine ev_aload_n dd_X8_open_5 0 rfl ?_
  refine ev_iconst (v := 0) dd_X8_open_6 (by decide) ?_
  refine ev_putI gw_RX8_28 dd_X8_open_7 ht (by decide) ?_
  refine ev_st (fun M2 => ?_)
  refine ev_aload_n dd_X8_open_10 0 rfl ?_
  refine ev_iconst (v := 0) dd_X8_open_11 (by decide) ?_
  refine ev_putI gw_RX8_34 dd_X8_open_12 ht (by decide) ?_
  refine ev_st (fun M3 => ?_)
  refine ev_aload_n dd_X8_open_15 0 rfl ?_
  refine ev_iconst (v := (-1)) dd_X8_open_16 (by decide) ?_
  refine ev_putI gw_RX8_37 dd_X8_open_17 ht (by decide) ?_
  refine ev_st (fun M4 => ?_)
  refine ev_aload_n dd_X8_open_20 0 rfl ?_
  refine ev_lv (lv' := []) [] rfl ?_
  refine ev_callVV (As := []) cl_RX8_40 (ct_X8_step l hl G t ht M4) dd_X8_open_21 ht (by decide) (Nat.le_of_ble_eq_true rfl) (Nat.le_of_ble_eq_true rfl) rfl rfl (fun M5 => ?_)
  exact ev_vret dd_X8_open_24 rfl (Nat.le_of_ble_eq_true rfl) rfl
