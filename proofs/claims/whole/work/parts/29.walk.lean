/-! F functions and walks, by program (gen.py, mkparts.py) -/
/-! X12_restore -/
theorem dd_X12_restore_0 : decode Y_X12_restore.2.1 0 = .ok (.aload_n 0, 1) := by decide +kernel
theorem dd_X12_restore_1 : decode Y_X12_restore.2.1 1 = .ok (.iconst 0, 1) := by decide +kernel
theorem dd_X12_restore_2 : decode Y_X12_restore.2.1 2 = .ok (.putfield 153, 3) := by decide +kernel
theorem dd_X12_restore_5 : decode Y_X12_restore.2.1 5 = .ok (.aload_n 0, 1) := by decide +kernel
theorem dd_X12_restore_6 : decode Y_X12_restore.2.1 6 = .ok (.getfield 335, 3) := by decide +kernel
theorem dd_X12_restore_9 : decode Y_X12_restore.2.1 9 = .ok (.ifCond .ne 5, 3) := by decide +kernel
theorem dd_X12_restore_12 : decode Y_X12_restore.2.1 12 = .ok (.iconst 0, 1) := by decide +kernel
theorem dd_X12_restore_13 : decode Y_X12_restore.2.1 13 = .ok (.ireturn, 1) := by decide +kernel
theorem dd_X12_restore_14 : decode Y_X12_restore.2.1 14 = .ok (.aload_n 0, 1) := by decide +kernel
theorem dd_X12_restore_15 : decode Y_X12_restore.2.1 15 = .ok (.aload_n 0, 1) := by decide +kernel
theorem dd_X12_restore_16 : decode Y_X12_restore.2.1 16 = .ok (.getfield 472, 3) := by decide +kernel
theorem dd_X12_restore_19 : decode Y_X12_restore.2.1 19 = .ok (.putfield 329, 3) := by decide +kernel
theorem dd_X12_restore_22 : decode Y_X12_restore.2.1 22 = .ok (.aload_n 0, 1) := by decide +kernel
theorem dd_X12_restore_23 : decode Y_X12_restore.2.1 23 = .ok (.aload_n 0, 1) := by decide +kernel
theorem dd_X12_restore_24 : decode Y_X12_restore.2.1 24 = .ok (.getfield 475, 3) := by decide +kernel
theorem dd_X12_restore_27 : decode Y_X12_restore.2.1 27 = .ok (.putfield 332, 3) := by decide +kernel
theorem dd_X12_restore_30 : decode Y_X12_restore.2.1 30 = .ok (.aload_n 0, 1) := by decide +kernel
theorem dd_X12_restore_31 : decode Y_X12_restore.2.1 31 = .ok (.aload_n 0, 1) := by decide +kernel
theorem dd_X12_restore_32 : decode Y_X12_restore.2.1 32 = .ok (.getfield 144, 3) := by decide +kernel
theorem dd_X12_restore_35 : decode Y_X12_restore.2.1 35 = .ok (.aload_n 0, 1) := by decide +kernel
theorem dd_X12_restore_36 : decode Y_X12_restore.2.1 36 = .ok (.getfield 87, 3) := by decide +kernel
theorem dd_X12_restore_39 : decode Y_X12_restore.2.1 39 = .ok (.invokevirtual 325, 3) := by decide +kernel
theorem dd_X12_restore_42 : decode Y_X12_restore.2.1 42 = .ok (.aload_n 0, 1) := by decide +kernel
theorem dd_X12_restore_43 : decode Y_X12_restore.2.1 43 = .ok (.aload_n 0, 1) := by decide +kernel
theorem dd_X12_restore_44 : decode Y_X12_restore.2.1 44 = .ok (.getfield 147, 3) := by decide +kernel
theorem dd_X12_restore_47 : decode Y_X12_restore.2.1 47 = .ok (.aload_n 0, 1) := by decide +kernel
theorem dd_X12_restore_48 : decode Y_X12_restore.2.1 48 = .ok (.getfield 93, 3) := by decide +kernel
theorem dd_X12_restore_51 : decode Y_X12_restore.2.1 51 = .ok (.invokevirtual 325, 3) := by decide +kernel
theorem dd_X12_restore_54 : decode Y_X12_restore.2.1 54 = .ok (.aload_n 0, 1) := by decide +kernel
theorem dd_X12_restore_55 : decode Y_X12_restore.2.1 55 = .ok (.aload_n 0, 1) := by decide +kernel
theorem dd_X12_restore_56 : decode Y_X12_restore.2.1 56 = .ok (.getfield 150, 3) := by decide +kernel
theorem dd_X12_restore_59 : decode Y_X12_restore.2.1 59 = .ok (.aload_n 0, 1) := by decide +kernel
theorem dd_X12_restore_60 : decode Y_X12_restore.2.1 60 = .ok (.getfield 129, 3) := by decide +kernel
theorem dd_X12_restore_63 : decode Y_X12_restore.2.1 63 = .ok (.invokevirtual 325, 3) := by decide +kernel
theorem dd_X12_restore_66 : decode Y_X12_restore.2.1 66 = .ok (.iconst 1, 1) := by decide +kernel
theorem dd_X12_restore_67 : decode Y_X12_restore.2.1 67 = .ok (.ireturn, 1) := by decide +kernel
def F_X12_restore (t : Nat) (M : zM) : zO := zst (zup M t 0 0) (fun M1 => zit ((M1 t 73) = 0) (zck (zbo 0) (zI 0 M1)) (zst (zup M1 t 50 (M1 t 74)) (fun M2 => zst (zup M2 t 64 (M2 t 75)) (fun M3 => zbV (F_X12_copies t (zgr t 76) (zgr t 47) M3) (fun M4 => zbV (F_X12_copies t (zgr t 77) (zgr t 49) M4) (fun M5 => zbV (F_X12_copies t (zgr t 78) (zgr t 65) M5) (fun M6 => zck (zbo 1) (zI 1 M6))))))))
set_option maxHeartbeats 1000000 in
set_option maxRecDepth 20000 in
theorem ct_X12_restore (l : Launch) (hl : l.stackTraces = false) (G : zG) (t : Nat) (ht : zsh t = 12) (M : zM) : zMt l G Y_X12_restore 2 [.ref (G.2.1 + t)] M (F_X12_restore t M) := by
  refine zMt_of (by decide +kernel) (Nat.le_of_ble_eq_true rfl) ?_
  show zEv l G Y_X12_restore 2 0 0 [(0, .ref (G.2.1 + t))] [] M (zst (zup M t 0 0) (fun M1 => zit ((M1 t 73) = 0) (zck (zbo 0) (zI 0 M1)) (zst (zup M1 t 50 (M1 t 74)) (fun M2 => zst (zup M2 t 64 (M2 t 75)) (fun M3 => zbV (F_X12_copies t (zgr t 76) (zgr t 47) M3) (fun M4 => zbV (F_X12_copies t (zgr t 77) (zgr t 49) M4) (fun M5 => zbV (F_X12_copies t (zgr t 78) (zgr t 65) M5) (fun M6 => zck (zbo 1) (zI 1 M6)))))))))
  refine ev_aload_n dd_X12_restore_0 0 rfl ?_
  refine ev_iconst (v := 0) dd_X12_restore_1 (by decide) ?_
  refine ev_putI gw_RX12_153 dd_X12_restore_2 ht (by decide) ?_
  refine ev_st (fun M1 => ?_)
  refine ev_aload_n dd_X12_restore_5 0 rfl ?_
  refine ev_getI gf_RX12_335 dd_X12_restore_6 ht (by decide) ?_
  refine ev_if_ne 14 dd_X12_restore_9 (by decide) ?_ ?_
  · refine ev_aload_n dd_X12_restore_14 0 rfl ?_
    refine ev_aload_n dd_X12_restore_15 0 rfl ?_
    refine ev_getI gf_RX12_472 dd_X12_restore_16 ht (by decide) ?_
    refine ev_putI gw_RX12_329 dd_X12_restore_19 ht (by decide) ?_
    refine ev_st (fun M2 => ?_)
    refine ev_aload_n dd_X12_restore_22 0 rfl ?_
    refine ev_aload_n dd_X12_restore_23 0 rfl ?_
    refine ev_getI gf_RX12_475 dd_X12_restore_24 ht (by decide) ?_
    refine ev_putI gw_RX12_332 dd_X12_restore_27 ht (by decide) ?_
    refine ev_st (fun M3 => ?_)
    refine ev_aload_n dd_X12_restore_30 0 rfl ?_
    refine ev_aload_n dd_X12_restore_31 0 rfl ?_
    refine ev_getR gf_RX12_144 dd_X12_restore_32 ht (by decide) ?_
    refine ev_aload_n dd_X12_restore_35 0 rfl ?_
    refine ev_getR gf_RX12_87 dd_X12_restore_36 ht (by decide) ?_
    refine ev_callVV (As := [.ref (G.2.1 + (zgr t 76)), .ref (G.2.1 + (zgr t 47))]) cl_RX12_325 (ct_X12_copies l hl G t ht (zgr t 76) ((zg_12_76 ht).1) (zgr t 47) ((zg_12_47 ht).1) M3) dd_X12_restore_39 ht (by decide) (Nat.le_of_ble_eq_true rfl) (Nat.le_of_ble_eq_true rfl) rfl rfl (fun M4 => ?_)
    refine ev_aload_n dd_X12_restore_42 0 rfl ?_
    refine ev_aload_n dd_X12_restore_43 0 rfl ?_
    refine ev_getR gf_RX12_147 dd_X12_restore_44 ht (by decide) ?_
    refine ev_aload_n dd_X12_restore_47 0 rfl ?_
    refine ev_getR gf_RX12_93 dd_X12_restore_48 ht (by decide) ?_
    refine ev_callVV (As := [.ref (G.2.1 + (zgr t 77)), .ref (G.2.1 + (zgr t 49))]) cl_RX12_325 (ct_X12_copies l hl G t ht (zgr t 77) ((zg_12_77 ht).1) (zgr t 49) ((zg_12_49 ht).1) M4) dd_X12_restore_51 ht (by decide) (Nat.le_of_ble_eq_true rfl) (Nat.le_of_ble_eq_true rfl) rfl rfl (fun M5 => ?_)
    refine ev_aload_n dd_X12_restore_54 0 rfl ?_
    refine ev_aload_n dd_X12_restore_55 0 rfl ?_
    refine ev_getR gf_RX12_150 dd_X12_restore_56 ht (by decide) ?_
    refine ev_aload_n dd_X12_restore_59 0 rfl ?_
    refine ev_lv (lv' := []) [] rfl ?_
    refine ev_getR gf_RX12_129 dd_X12_restore_60 ht (by decide) ?_
    refine ev_callVV (As := [.ref (G.2.1 + (zgr t 78)), .ref (G.2.1 + (zgr t 65))]) cl_RX12_325 (ct_X12_copies l hl G t ht (zgr t 78) ((zg_12_78 ht).1) (zgr t 65) ((zg_12_65 ht).1) M5) dd_X12_restore_63 ht (by decide) (Nat.le_of_ble_eq_true rfl) (Nat.le_of_ble_eq_true rfl) rfl rfl (fun M6 => ?_)
    refine ev_iconst (v := 1) dd_X12_restore_66 (by decide) ?_
    exact ev_zret dd_X12_restore_67 rfl (Nat.le_of_ble_eq_true rfl) rfl
  · refine ev_lv (lv' := []) [] rfl ?_
    refine ev_iconst (v := 0) dd_X12_restore_12 (by decide) ?_
    exact ev_zret dd_X12_restore_13 rfl (Nat.le_of_ble_eq_true rfl) rfl
/-! X12_rings -/
theorem dd_X12_rings_0 : decode Y_X12_rings.2.1 0 = .ok (.iconst 0, 1) := by decide +kernel
theorem dd_X12_rings_1 : decode Y_X12_rings.2.1 1 = .ok (.istore_n 1, 1) := by decide +kernel
theorem dd_X12_rings_2 : decode Y_X12_rings.2.1 2 = .ok (.iconst 0, 1) := by decide +kernel
theorem dd_X12_rings_3 : decode Y_X12_rings.2.1 3 = .ok (.istore_n 2, 1) := by decide +kernel
theorem dd_X12_rings_4 : decode Y_X12_rings.2.1 4 = .ok (.iconst 0, 1) := by decide +kernel
theorem dd_X12_rings_5 : decode Y_X12_rings.2.1 5 = .ok (.istore_n 3, 1) := by decide +kernel
theorem dd_X12_rings_6 : decode Y_X12_rings.2.1 6 = .ok (.iload_n 3, 1) := by decide +kernel
theorem dd_X12_rings_7 : decode Y_X12_rings.2.1 7 = .ok (.aload_n 0, 1) := by decide +kernel
theorem dd_X12_rings_8 : decode Y_X12_rings.2.1 8 = .ok (.getfield 319, 3) := by decide +kernel
theorem dd_X12_rings_11 : decode Y_X12_rings.2.1 11 = .ok (.if_icmp .ge 63, 3) := by decide +kernel
theorem dd_X12_rings_14 : decode Y_X12_rings.2.1 14 = .ok (.iload_n 2, 1) := by decide +kernel
theorem dd_X12_rings_15 : decode Y_X12_rings.2.1 15 = .ok (.iload_n 3, 1) := by decide +kernel
theorem dd_X12_rings_16 : decode Y_X12_rings.2.1 16 = .ok (.ishr, 1) := by decide +kernel
theorem dd_X12_rings_17 : decode Y_X12_rings.2.1 17 = .ok (.iconst 1, 1) := by decide +kernel
theorem dd_X12_rings_18 : decode Y_X12_rings.2.1 18 = .ok (.iand, 1) := by decide +kernel
theorem dd_X12_rings_19 : decode Y_X12_rings.2.1 19 = .ok (.iconst 1, 1) := by decide +kernel
theorem dd_X12_rings_20 : decode Y_X12_rings.2.1 20 = .ok (.if_icmp .ne 6, 3) := by decide +kernel
theorem dd_X12_rings_23 : decode Y_X12_rings.2.1 23 = .ok (.goto 45, 3) := by decide +kernel
theorem dd_X12_rings_26 : decode Y_X12_rings.2.1 26 = .ok (.iinc 1 1, 3) := by decide +kernel
theorem dd_X12_rings_29 : decode Y_X12_rings.2.1 29 = .ok (.iload_n 3, 1) := by decide +kernel
theorem dd_X12_rings_30 : decode Y_X12_rings.2.1 30 = .ok (.istore 4, 2) := by decide +kernel
theorem dd_X12_rings_32 : decode Y_X12_rings.2.1 32 = .ok (.iload_n 2, 1) := by decide +kernel
theorem dd_X12_rings_33 : decode Y_X12_rings.2.1 33 = .ok (.iload 4, 2) := by decide +kernel
theorem dd_X12_rings_35 : decode Y_X12_rings.2.1 35 = .ok (.ishr, 1) := by decide +kernel
theorem dd_X12_rings_36 : decode Y_X12_rings.2.1 36 = .ok (.iconst 1, 1) := by decide +kernel
theorem dd_X12_rings_37 : decode Y_X12_rings.2.1 37 = .ok (.iand, 1) := by decide +kernel
theorem dd_X12_rings_38 : decode Y_X12_rings.2.1 38 = .ok (.ifCond .ne 30, 3) := by decide +kernel
theorem dd_X12_rings_41 : decode Y_X12_rings.2.1 41 = .ok (.iload_n 2, 1) := by decide +kernel
theorem dd_X12_rings_42 : decode Y_X12_rings.2.1 42 = .ok (.iconst 1, 1) := by decide +kernel
theorem dd_X12_rings_43 : decode Y_X12_rings.2.1 43 = .ok (.iload 4, 2) := by decide +kernel
theorem dd_X12_rings_45 : decode Y_X12_rings.2.1 45 = .ok (.ishl, 1) := by decide +kernel
theorem dd_X12_rings_46 : decode Y_X12_rings.2.1 46 = .ok (.ior, 1) := by decide +kernel
theorem dd_X12_rings_47 : decode Y_X12_rings.2.1 47 = .ok (.istore_n 2, 1) := by decide +kernel
theorem dd_X12_rings_48 : decode Y_X12_rings.2.1 48 = .ok (.aload_n 0, 1) := by decide +kernel
theorem dd_X12_rings_49 : decode Y_X12_rings.2.1 49 = .ok (.aload_n 0, 1) := by decide +kernel
theorem dd_X12_rings_50 : decode Y_X12_rings.2.1 50 = .ok (.getfield 87, 3) := by decide +kernel
theorem dd_X12_rings_53 : decode Y_X12_rings.2.1 53 = .ok (.aload_n 0, 1) := by decide +kernel
theorem dd_X12_rings_54 : decode Y_X12_rings.2.1 54 = .ok (.getfield 120, 3) := by decide +kernel
theorem dd_X12_rings_57 : decode Y_X12_rings.2.1 57 = .ok (.iload 4, 2) := by decide +kernel
theorem dd_X12_rings_59 : decode Y_X12_rings.2.1 59 = .ok (.iaload, 1) := by decide +kernel
theorem dd_X12_rings_60 : decode Y_X12_rings.2.1 60 = .ok (.invokevirtual 353, 3) := by decide +kernel
theorem dd_X12_rings_63 : decode Y_X12_rings.2.1 63 = .ok (.istore 4, 2) := by decide +kernel
theorem dd_X12_rings_65 : decode Y_X12_rings.2.1 65 = .ok (.goto (-33), 3) := by decide +kernel
theorem dd_X12_rings_68 : decode Y_X12_rings.2.1 68 = .ok (.iinc 3 1, 3) := by decide +kernel
theorem dd_X12_rings_71 : decode Y_X12_rings.2.1 71 = .ok (.goto (-65), 3) := by decide +kernel
theorem dd_X12_rings_74 : decode Y_X12_rings.2.1 74 = .ok (.iload_n 1, 1) := by decide +kernel
theorem dd_X12_rings_75 : decode Y_X12_rings.2.1 75 = .ok (.ireturn, 1) := by decide +kernel
def F_X12_rings_L32 (x0 : Nat) (x1 : Int32) (x3 : Int32) (K68 : Int32 → zM → zO) : Nat → Int32 → Int32 → zM → zO
  | 0, _, _, _ => none
  | n + 1, x2, x4, M => zit (((x2 >>> (x4 &&& 31)) &&& 1) = 0) (zlt (x2 ||| ((1 : Int32) <<< (x4 &&& 31))) (fun v1 => zck (zin x4 8) (zbI (F_X12_holder x0 (zgr x0 47) (M (zgr x0 59) (zix x4)) M) (fun r1 M1 => F_X12_rings_L32 x0 x1 x3 K68 n v1 r1 M1)))) (K68 x2 M)
def F_X12_rings_L6 (x0 : Nat) (K74 : Int32 → zM → zO) : Nat → Int32 → Int32 → Int32 → zM → zO
  | 0, _, _, _, _ => none
  | n + 1, x1, x2, x3, M => zit ((M x0 1) ≤ x3) (K74 x1 M) (zjo (fun (w1 : Int32) (w2 : Int32) (M3 : zM) => F_X12_rings_L6 x0 K74 n w1 w2 (x3 + 1) M3) (fun (k1 : Int32 → Int32 → zM → zO) => zit (((x2 >>> (x3 &&& 31)) &&& 1) = 1) (k1 x1 x2 M) (F_X12_rings_L32 x0 (x1 + 1) x3 (fun (y1 : Int32) (M2 : zM) => k1 (x1 + 1) y1 M2) zN x2 x3 M)))
def F_X12_rings (t : Nat) (M : zM) : zO := F_X12_rings_L6 t (fun (y2 : Int32) (M4 : zM) => zI y2 M4) zN 0 0 0 M
set_option maxHeartbeats 1000000 in
set_option maxRecDepth 20000 in
theorem ct_X12_rings_L32 (l : Launch) (hl : l.stackTraces = false) (G : zG) (x0 : Nat) (hx0 : zsh x0 = 12) (x1 : Int32) (x3 : Int32) (K68 : Int32 → zM → zO) (hK68 : ∀ (x2 : Int32) (M : zM), zEv l G Y_X12_rings 2 0 68 [(0, .ref (G.2.1 + x0)), (1, .int x1), (2, .int x2), (3, .int x3)] [] M (K68 x2 M)) : ∀ (n : Nat) (x2 : Int32) (x4 : Int32) (M : zM), zEv l G Y_X12_rings 2 0 32 [(0, .ref (G.2.1 + x0)), (1, .int x1), (2, .int x2), (3, .int x3), (4, .int x4)] [] M (F_X12_rings_L32 x0 x1 x3 K68 n x2 x4 M) := by
  intro n
  induction n with
  | zero => intro x2 x4 M; exact ev_none
  | succ n ih =>
    intro x2 x4 M
    show zEv l G Y_X12_rings 2 0 32 [(0, .ref (G.2.1 + x0)), (1, .int x1), (2, .int x2), (3, .int x3), (4, .int x4)] [] M (zit (((x2 >>> (x4 &&& 31)) &&& 1) = 0) (zlt (x2 ||| ((1 : Int32) <<< (x4 &&& 31))) (fun v1 => zck (zin x4 8) (zbI (F_X12_holder x0 (zgr x0 47) (M (zgr x0 59) (zix x4)) M) (fun r1 M1 => F_X12_rings_L32 x0 x1 x3 K68 n v1 r1 M1)))) (K68 x2 M))
    refine ev_iload_n dd_X12_rings_32 2 rfl ?_
    refine ev_iload dd_X12_rings_33 4 rfl ?_
    refine ev_ishr dd_X12_rings_35 ?_
    refine ev_iconst (v := 1) dd_X12_rings_36 (by decide) ?_
    refine ev_iand dd_X12_rings_37 ?_
    refine ev_if_ne 68 dd_X12_rings_38 (by decide) ?_ ?_
    · refine ev_lv (lv' := [(0, .ref (G.2.1 + x0)), (1, .int x1), (2, .int x2), (3, .int x3)]) [0, 1, 2, 3] rfl ?_
      exact hK68 _ _
    · refine ev_iload_n dd_X12_rings_41 2 rfl ?_
      refine ev_lv (lv' := [(0, .ref (G.2.1 + x0)), (1, .int x1), (3, .int x3), (4, .int x4)]) [0, 1, 3, 4] rfl ?_
      refine ev_iconst (v := 1) dd_X12_rings_42 (by decide) ?_
      refine ev_iload dd_X12_rings_43 3 rfl ?_
      refine ev_ishl dd_X12_rings_45 ?_
      refine ev_ior dd_X12_rings_46 ?_
      refine ev_topi (fun v1 => ?_)
      refine ev_istore_n (i := 2) (lv' := [(0, .ref (G.2.1 + x0)), (1, .int x1), (2, .int v1), (3, .int x3), (4, .int x4)]) [1, 2, 0, 3, 4] dd_X12_rings_47 rfl (by decide) rfl ?_
      refine ev_aload_n dd_X12_rings_48 0 rfl ?_
      refine ev_aload_n dd_X12_rings_49 0 rfl ?_
      refine ev_getR gf_RX12_87 dd_X12_rings_50 hx0 (by decide) ?_
      refine ev_aload_n dd_X12_rings_53 0 rfl ?_
      refine ev_getR gf_RX12_120 dd_X12_rings_54 hx0 (by decide) ?_
      refine ev_iload dd_X12_rings_57 4 rfl ?_
      refine ev_lv (lv' := [(0, .ref (G.2.1 + x0)), (1, .int x1), (2, .int v1), (3, .int x3)]) [0, 1, 2, 3] rfl ?_
      refine ev_iald dd_X12_rings_59 ((zg_12_59 hx0).1) ((zg_12_59 hx0).2) ?_
      refine ev_callVI (As := [.ref (G.2.1 + (zgr x0 47)), .int (M (zgr x0 59) (zix x4))]) cl_RX12_353 (ct_X12_holder l hl G x0 hx0 (zgr x0 47) ((zg_12_47 hx0).1) (M (zgr x0 59) (zix x4)) M) dd_X12_rings_60 hx0 (by decide) (Nat.le_of_ble_eq_true rfl) (Nat.le_of_ble_eq_true rfl) rfl rfl (fun r1 M1 => ?_)
      refine ev_istore (i := 4) (lv' := [(0, .ref (G.2.1 + x0)), (1, .int x1), (2, .int v1), (3, .int x3), (4, .int r1)]) [1, 2, 3, 4, 0] dd_X12_rings_63 (by decide) rfl ?_
      refine ev_goto 32 dd_X12_rings_65 (by decide) ?_
      exact ih _ _ _
set_option maxHeartbeats 1000000 in
set_option maxRecDepth 20000 in
theorem ct_X12_rings_L6 (l : Launch) (hl : l.stackTraces = false) (G : zG) (x0 : Nat) (hx0 : zsh x0 = 12) (K74 : Int32 → zM → zO) (hK74 : ∀ (x1 : Int32) (M : zM), zEv l G Y_X12_rings 2 0 74 [(1, .int x1)] [] M (K74 x1 M)) : ∀ (n : Nat) (x1 : Int32) (x2 : Int32) (x3 : Int32) (M : zM), zEv l G Y_X12_rings 2 0 6 [(0, .ref (G.2.1 + x0)), (1, .int x1), (2, .int x2), (3, .int x3)] [] M (F_X12_rings_L6 x0 K74 n x1 x2 x3 M) := by
  intro n
  induction n with
  | zero => intro x1 x2 x3 M; exact ev_none
  | succ n ih =>
    intro x1 x2 x3 M
    show zEv l G Y_X12_rings 2 0 6 [(0, .ref (G.2.1 + x0)), (1, .int x1), (2, .int x2), (3, .int x3)] [] M (zit ((M x0 1) ≤ x3) (K74 x1 M) (zjo (fun (w1 : Int32) (w2 : Int32) (M3 : zM) => F_X12_rings_L6 x0 K74 n w1 w2 (x3 + 1) M3) (fun (k1 : Int32 → Int32 → zM → zO) => zit (((x2 >>> (x3 &&& 31)) &&& 1) = 1) (k1 x1 x2 M) (F_X12_rings_L32 x0 (x1 + 1) x3 (fun (y1 : Int32) (M2 : zM) => k1 (x1 + 1) y1 M2) zN x2 x3 M))))
    refine ev_iload_n dd_X12_rings_6 3 rfl ?_
    refine ev_aload_n dd_X12_rings_7 0 rfl ?_
    refine ev_getI gf_RX12_319 dd_X12_rings_8 hx0 (by decide) ?_
    refine ev_icmp_ge 74 dd_X12_rings_11 (by decide) ?_ ?_
    · refine ev_lv (lv' := [(1, .int x1)]) [1] rfl ?_
      exact hK74 _ _
    · refine ev_iload_n dd_X12_rings_14 2 rfl ?_
      refine ev_iload_n dd_X12_rings_15 3 rfl ?_
      refine ev_ishr dd_X12_rings_16 ?_
      refine ev_iconst (v := 1) dd_X12_rings_17 (by decide) ?_
      refine ev_iand dd_X12_rings_18 ?_
      refine ev_iconst (v := 1) dd_X12_rings_19 (by decide) ?_
      refine ev_jo (fun (k1 : Int32 → Int32 → zM → zO) => ∀ (w1 : Int32) (w2 : Int32) (M3 : zM), zEv l G Y_X12_rings 2 0 68 [(0, .ref (G.2.1 + x0)), (1, .int w1), (2, .int w2), (3, .int x3)] [] M3 (k1 w1 w2 M3)) ?_ (fun k1 hk1 => ?_)
      · intro w1 w2 M3
        refine ev_iinc (j := 3) (v := 1) (lv' := [(0, .ref (G.2.1 + x0)), (1, .int w1), (2, .int w2), (3, .int (x3 + 1))]) [1, 2, 3, 0] dd_X12_rings_68 rfl (by decide) (by decide) rfl ?_
        refine ev_goto 6 dd_X12_rings_71 (by decide) ?_
        exact ih _ _ _ _
      · refine ev_icmp_ne 26 dd_X12_rings_20 (by decide) ?_ ?_
        · refine ev_iinc (j := 1) (v := 1) (lv' := [(0, .ref (G.2.1 + x0)), (1, .int (x1 + 1)), (2, .int x2), (3, .int x3)]) [1, 0, 2, 3] dd_X12_rings_26 rfl (by decide) (by decide) rfl ?_
          refine ev_iload_n dd_X12_rings_29 3 rfl ?_
          refine ev_istore (i := 4) (lv' := [(0, .ref (G.2.1 + x0)), (1, .int (x1 + 1)), (2, .int x2), (3, .int x3), (4, .int x3)]) [1, 2, 3, 4, 0] dd_X12_rings_30 (by decide) rfl ?_
          refine ct_X12_rings_L32 l hl G x0 hx0 (x1 + 1) x3 _ (fun y1 M2 => ?_) zN _ _ _
          exact hk1 _ _ _
        · refine ev_goto 68 dd_X12_rings_23 (by decide) ?_
          exact hk1 _ _ _
set_option maxHeartbeats 1000000 in
set_option maxRecDepth 20000 in
theorem ct_X12_rings (l : Launch) (hl : l.stackTraces = false) (G : zG) (t : Nat) (ht : zsh t = 12) (M : zM) : zMt l G Y_X12_rings 2 [.ref (G.2.1 + t)] M (F_X12_rings t M) := by
  refine zMt_of (by decide +kernel) (Nat.le_of_ble_eq_true rfl) ?_
  show zEv l G Y_X12_rings 2 0 0 [(0, .ref (G.2.1 + t))] [] M (F_X12_rings_L6 t (fun (y2 : Int32) (M4 : zM) => zI y2 M4) zN 0 0 0 M)
  refine ev_iconst (v := 0) dd_X12_rings_0 (by decide) ?_
  refine ev_istore_n (i := 1) (lv' := [(0, .ref (G.2.1 + t)), (1, .int 0)]) [1, 0] dd_X12_rings_1 rfl (by decide) rfl ?_
  refine ev_iconst (v := 0) dd_X12_rings_2 (by decide) ?_
  refine ev_istore_n (i := 2) (lv' := [(0, .ref (G.2.1 + t)), (1, .int 0), (2, .int 0)]) [1, 2, 0] dd_X12_rings_3 rfl (by decide) rfl ?_
  refine ev_iconst (v := 0) dd_X12_rings_4 (by decide) ?_
  refine ev_istore_n (i := 3) (lv' := [(0, .ref (G.2.1 + t)), (1, .int 0), (2, .int 0), (3, .int 0)]) [1, 2, 3, 0] dd_X12_rings_5 rfl (by decide) rfl ?_
  refine ct_X12_rings_L6 l hl G t ht _ (fun y2 M4 => ?_) zN _ _ _ _
  refine ev_iload_n dd_X12_rings_74 0 rfl ?_
  refine ev_lv (lv' := []) [] rfl ?_
  exact ev_iret dd_X12_rings_75 rfl (Nat.le_of_ble_eq_true rfl) rfl
/-! X12_round -/
theorem dd_X12_round_0 : decode Y_X12_round.2.1 0 = .ok (.aload_n 0, 1) := by decide +kernel
theorem dd_X12_round_1 : decode Y_X12_round.2.1 1 = .ok (.iconst 0, 1) := by decide +kernel
theorem dd_X12_round_2 : decode Y_X12_round.2.1 2 = .ok (.putfield 153, 3) := by decide +kernel
theorem dd_X12_round_5 : decode Y_X12_round.2.1 5 = .ok (.iload_n 1, 1) := by decide +kernel
theorem dd_X12_round_6 : decode Y_X12_round.2.1 6 = .ok (.iconst (-1), 1) := by decide +kernel
theorem dd_X12_round_7 : decode Y_X12_round.2.1 7 = .ok (.if_icmp .eq 13, 3) := by decide +kernel
theorem dd_X12_round_10 : decode Y_X12_round.2.1 10 = .ok (.aload_n 0, 1) := by decide +kernel
theorem dd_X12_round_11 : decode Y_X12_round.2.1 11 = .ok (.iload_n 1, 1) := by decide +kernel
theorem dd_X12_round_12 : decode Y_X12_round.2.1 12 = .ok (.invokevirtual 346, 3) := by decide +kernel
theorem dd_X12_round_15 : decode Y_X12_round.2.1 15 = .ok (.ifCond .ne 5, 3) := by decide +kernel
theorem dd_X12_round_18 : decode Y_X12_round.2.1 18 = .ok (.iconst 0, 1) := by decide +kernel
theorem dd_X12_round_19 : decode Y_X12_round.2.1 19 = .ok (.ireturn, 1) := by decide +kernel
theorem dd_X12_round_20 : decode Y_X12_round.2.1 20 = .ok (.iconst 1, 1) := by decide +kernel
theorem dd_X12_round_21 : decode Y_X12_round.2.1 21 = .ok (.aload_n 0, 1) := by decide +kernel
theorem dd_X12_round_22 : decode Y_X12_round.2.1 22 = .ok (.getfield 319, 3) := by decide +kernel
theorem dd_X12_round_25 : decode Y_X12_round.2.1 25 = .ok (.ishl, 1) := by decide +kernel
theorem dd_X12_round_26 : decode Y_X12_round.2.1 26 = .ok (.iconst 1, 1) := by decide +kernel
theorem dd_X12_round_27 : decode Y_X12_round.2.1 27 = .ok (.isub, 1) := by decide +kernel
theorem dd_X12_round_28 : decode Y_X12_round.2.1 28 = .ok (.istore_n 2, 1) := by decide +kernel
theorem dd_X12_round_29 : decode Y_X12_round.2.1 29 = .ok (.iconst 0, 1) := by decide +kernel
theorem dd_X12_round_30 : decode Y_X12_round.2.1 30 = .ok (.istore_n 3, 1) := by decide +kernel
theorem dd_X12_round_31 : decode Y_X12_round.2.1 31 = .ok (.iload_n 2, 1) := by decide +kernel
theorem dd_X12_round_32 : decode Y_X12_round.2.1 32 = .ok (.ifCond .eq 132, 3) := by decide +kernel
theorem dd_X12_round_35 : decode Y_X12_round.2.1 35 = .ok (.iconst 0, 1) := by decide +kernel
theorem dd_X12_round_36 : decode Y_X12_round.2.1 36 = .ok (.istore 4, 2) := by decide +kernel
theorem dd_X12_round_38 : decode Y_X12_round.2.1 38 = .ok (.iconst 0, 1) := by decide +kernel
theorem dd_X12_round_39 : decode Y_X12_round.2.1 39 = .ok (.istore 5, 2) := by decide +kernel
theorem dd_X12_round_41 : decode Y_X12_round.2.1 41 = .ok (.iload 5, 2) := by decide +kernel
theorem dd_X12_round_43 : decode Y_X12_round.2.1 43 = .ok (.aload_n 0, 1) := by decide +kernel
theorem dd_X12_round_44 : decode Y_X12_round.2.1 44 = .ok (.getfield 319, 3) := by decide +kernel
theorem dd_X12_round_47 : decode Y_X12_round.2.1 47 = .ok (.if_icmp .ge 107, 3) := by decide +kernel
theorem dd_X12_round_50 : decode Y_X12_round.2.1 50 = .ok (.iload_n 2, 1) := by decide +kernel
theorem dd_X12_round_51 : decode Y_X12_round.2.1 51 = .ok (.iload 5, 2) := by decide +kernel
theorem dd_X12_round_53 : decode Y_X12_round.2.1 53 = .ok (.ishr, 1) := by decide +kernel
theorem dd_X12_round_54 : decode Y_X12_round.2.1 54 = .ok (.iconst 1, 1) := by decide +kernel
theorem dd_X12_round_55 : decode Y_X12_round.2.1 55 = .ok (.iand, 1) := by decide +kernel
theorem dd_X12_round_56 : decode Y_X12_round.2.1 56 = .ok (.ifCond .ne 6, 3) := by decide +kernel
theorem dd_X12_round_59 : decode Y_X12_round.2.1 59 = .ok (.goto 89, 3) := by decide +kernel
theorem dd_X12_round_62 : decode Y_X12_round.2.1 62 = .ok (.iconst 0, 1) := by decide +kernel
theorem dd_X12_round_63 : decode Y_X12_round.2.1 63 = .ok (.istore 6, 2) := by decide +kernel
theorem dd_X12_round_65 : decode Y_X12_round.2.1 65 = .ok (.iload 5, 2) := by decide +kernel
theorem dd_X12_round_67 : decode Y_X12_round.2.1 67 = .ok (.istore 7, 2) := by decide +kernel
theorem dd_X12_round_69 : decode Y_X12_round.2.1 69 = .ok (.aload_n 0, 1) := by decide +kernel
theorem dd_X12_round_70 : decode Y_X12_round.2.1 70 = .ok (.iload 7, 2) := by decide +kernel
theorem dd_X12_round_72 : decode Y_X12_round.2.1 72 = .ok (.iload_n 2, 1) := by decide +kernel
theorem dd_X12_round_73 : decode Y_X12_round.2.1 73 = .ok (.invokevirtual 403, 3) := by decide +kernel
theorem dd_X12_round_76 : decode Y_X12_round.2.1 76 = .ok (.istore 7, 2) := by decide +kernel
theorem dd_X12_round_78 : decode Y_X12_round.2.1 78 = .ok (.iinc 6 1, 3) := by decide +kernel
theorem dd_X12_round_81 : decode Y_X12_round.2.1 81 = .ok (.iload 7, 2) := by decide +kernel
theorem dd_X12_round_83 : decode Y_X12_round.2.1 83 = .ok (.iload 5, 2) := by decide +kernel
theorem dd_X12_round_85 : decode Y_X12_round.2.1 85 = .ok (.if_icmp .eq 12, 3) := by decide +kernel
theorem dd_X12_round_88 : decode Y_X12_round.2.1 88 = .ok (.iload 6, 2) := by decide +kernel
theorem dd_X12_round_90 : decode Y_X12_round.2.1 90 = .ok (.aload_n 0, 1) := by decide +kernel
theorem dd_X12_round_91 : decode Y_X12_round.2.1 91 = .ok (.getfield 319, 3) := by decide +kernel
theorem dd_X12_round_94 : decode Y_X12_round.2.1 94 = .ok (.if_icmp .le (-25), 3) := by decide +kernel
theorem dd_X12_round_97 : decode Y_X12_round.2.1 97 = .ok (.iload 7, 2) := by decide +kernel
theorem dd_X12_round_99 : decode Y_X12_round.2.1 99 = .ok (.iload 5, 2) := by decide +kernel
theorem dd_X12_round_101 : decode Y_X12_round.2.1 101 = .ok (.if_icmp .eq 6, 3) := by decide +kernel
theorem dd_X12_round_104 : decode Y_X12_round.2.1 104 = .ok (.goto 44, 3) := by decide +kernel
theorem dd_X12_round_107 : decode Y_X12_round.2.1 107 = .ok (.aload_n 0, 1) := by decide +kernel
theorem dd_X12_round_108 : decode Y_X12_round.2.1 108 = .ok (.getfield 102, 3) := by decide +kernel
theorem dd_X12_round_111 : decode Y_X12_round.2.1 111 = .ok (.iload 5, 2) := by decide +kernel
theorem dd_X12_round_113 : decode Y_X12_round.2.1 113 = .ok (.aload_n 0, 1) := by decide +kernel
theorem dd_X12_round_114 : decode Y_X12_round.2.1 114 = .ok (.getfield 87, 3) := by decide +kernel
theorem dd_X12_round_117 : decode Y_X12_round.2.1 117 = .ok (.aload_n 0, 1) := by decide +kernel
theorem dd_X12_round_118 : decode Y_X12_round.2.1 118 = .ok (.iload 5, 2) := by decide +kernel
theorem dd_X12_round_120 : decode Y_X12_round.2.1 120 = .ok (.iload_n 2, 1) := by decide +kernel
theorem dd_X12_round_121 : decode Y_X12_round.2.1 121 = .ok (.invokevirtual 403, 3) := by decide +kernel
theorem dd_X12_round_124 : decode Y_X12_round.2.1 124 = .ok (.iaload, 1) := by decide +kernel
theorem dd_X12_round_125 : decode Y_X12_round.2.1 125 = .ok (.iastore, 1) := by decide +kernel
theorem dd_X12_round_126 : decode Y_X12_round.2.1 126 = .ok (.iload 4, 2) := by decide +kernel
theorem dd_X12_round_128 : decode Y_X12_round.2.1 128 = .ok (.iconst 1, 1) := by decide +kernel
theorem dd_X12_round_129 : decode Y_X12_round.2.1 129 = .ok (.iload 5, 2) := by decide +kernel
theorem dd_X12_round_131 : decode Y_X12_round.2.1 131 = .ok (.ishl, 1) := by decide +kernel
theorem dd_X12_round_132 : decode Y_X12_round.2.1 132 = .ok (.ior, 1) := by decide +kernel
theorem dd_X12_round_133 : decode Y_X12_round.2.1 133 = .ok (.istore 4, 2) := by decide +kernel
theorem dd_X12_round_135 : decode Y_X12_round.2.1 135 = .ok (.iload 6, 2) := by decide +kernel
theorem dd_X12_round_137 : decode Y_X12_round.2.1 137 = .ok (.iload_n 3, 1) := by decide +kernel
theorem dd_X12_round_138 : decode Y_X12_round.2.1 138 = .ok (.if_icmp .le 8, 3) := by decide +kernel
theorem dd_X12_round_141 : decode Y_X12_round.2.1 141 = .ok (.iload 6, 2) := by decide +kernel
theorem dd_X12_round_143 : decode Y_X12_round.2.1 143 = .ok (.goto 4, 3) := by decide +kernel
theorem dd_X12_round_146 : decode Y_X12_round.2.1 146 = .ok (.iload_n 3, 1) := by decide +kernel
theorem dd_X12_round_147 : decode Y_X12_round.2.1 147 = .ok (.istore_n 3, 1) := by decide +kernel
theorem dd_X12_round_148 : decode Y_X12_round.2.1 148 = .ok (.iinc 5 1, 3) := by decide +kernel
theorem dd_X12_round_151 : decode Y_X12_round.2.1 151 = .ok (.goto (-110), 3) := by decide +kernel
theorem dd_X12_round_154 : decode Y_X12_round.2.1 154 = .ok (.iload_n 2, 1) := by decide +kernel
theorem dd_X12_round_155 : decode Y_X12_round.2.1 155 = .ok (.iload 4, 2) := by decide +kernel
theorem dd_X12_round_157 : decode Y_X12_round.2.1 157 = .ok (.iconst (-1), 1) := by decide +kernel
theorem dd_X12_round_158 : decode Y_X12_round.2.1 158 = .ok (.ixor, 1) := by decide +kernel
theorem dd_X12_round_159 : decode Y_X12_round.2.1 159 = .ok (.iand, 1) := by decide +kernel
theorem dd_X12_round_160 : decode Y_X12_round.2.1 160 = .ok (.istore_n 2, 1) := by decide +kernel
theorem dd_X12_round_161 : decode Y_X12_round.2.1 161 = .ok (.goto (-130), 3) := by decide +kernel
theorem dd_X12_round_164 : decode Y_X12_round.2.1 164 = .ok (.iload_n 1, 1) := by decide +kernel
theorem dd_X12_round_165 : decode Y_X12_round.2.1 165 = .ok (.iconst (-1), 1) := by decide +kernel
theorem dd_X12_round_166 : decode Y_X12_round.2.1 166 = .ok (.if_icmp .ne 7, 3) := by decide +kernel
theorem dd_X12_round_169 : decode Y_X12_round.2.1 169 = .ok (.iload_n 3, 1) := by decide +kernel
theorem dd_X12_round_170 : decode Y_X12_round.2.1 170 = .ok (.goto 9, 3) := by decide +kernel
theorem dd_X12_round_173 : decode Y_X12_round.2.1 173 = .ok (.aload_n 0, 1) := by decide +kernel
theorem dd_X12_round_174 : decode Y_X12_round.2.1 174 = .ok (.getfield 102, 3) := by decide +kernel
theorem dd_X12_round_177 : decode Y_X12_round.2.1 177 = .ok (.iload_n 1, 1) := by decide +kernel
theorem dd_X12_round_178 : decode Y_X12_round.2.1 178 = .ok (.iaload, 1) := by decide +kernel
theorem dd_X12_round_179 : decode Y_X12_round.2.1 179 = .ok (.ireturn, 1) := by decide +kernel
def F_X12_round_L69 (x0 : Nat) (x1 : Int32) (x2 : Int32) (x3 : Int32) (x4 : Int32) (x5 : Int32) (K97 : Int32 → Int32 → zM → zO) : Nat → Int32 → Int32 → zM → zO
  | 0, _, _, _ => none
  | n + 1, x6, x7, M => zbI (F_X12_pointsTo x0 x7 x2 M) (fun r2 M4 => zit (r2 = x5) (K97 (x6 + 1) r2 M4) (zit ((x6 + 1) ≤ (M4 x0 1)) (F_X12_round_L69 x0 x1 x2 x3 x4 x5 K97 n (x6 + 1) r2 M4) (K97 (x6 + 1) r2 M4)))
def F_X12_round_L41 (x0 : Nat) (x1 : Int32) (x2 : Int32) (K154 : Int32 → Int32 → zM → zO) : Nat → Int32 → Int32 → Int32 → zM → zO
  | 0, _, _, _, _ => none
  | n + 1, x3, x4, x5, M => zit ((M x0 1) ≤ x5) (K154 x3 x4 M) (zjo (fun (w2 : Int32) (w3 : Int32) (M9 : zM) => F_X12_round_L41 x0 x1 x2 K154 n w2 w3 (x5 + 1) M9) (fun (k2 : Int32 → Int32 → zM → zO) => zit (((x2 >>> (x5 &&& 31)) &&& 1) = 0) (k2 x3 x4 M) (F_X12_round_L69 x0 x1 x2 x3 x4 x5 (fun (y1 : Int32) (y2 : Int32) (M5 : zM) => zit (y2 = x5) (zbI (F_X12_pointsTo x0 x5 x2 M5) (fun r3 M6 => zck (zin r3 73) (zck (zin x5 8) (zst (zup M6 (zgr x0 53) (zix x5) (M6 (zgr x0 47) (zix r3))) (fun M7 => zlt (x4 ||| ((1 : Int32) <<< (x5 &&& 31))) (fun v2 => zjo (fun (w1 : Int32) (M8 : zM) => k2 w1 v2 M8) (fun (k3 : Int32 → zM → zO) => zit (y1 ≤ x3) (k3 x3 M7) (k3 y1 M7)))))))) (k2 x3 x4 M5)) zN 0 x5 M)))
def F_X12_round_L31 (x0 : Nat) (x1 : Int32) (K164 : Int32 → zM → zO) : Nat → Int32 → Int32 → zM → zO
  | 0, _, _, _ => none
  | n + 1, x2, x3, M => zit (x2 = 0) (K164 x3 M) (F_X12_round_L41 x0 x1 x2 (fun (y3 : Int32) (y4 : Int32) (M10 : zM) => zlt (x2 &&& (y4 ^^^ (-1))) (fun v3 => F_X12_round_L31 x0 x1 K164 n v3 y3 M10)) zN x3 0 0 M)
def F_X12_round (t : Nat) (a1 : Int32) (M : zM) : zO := zst (zup M t 0 0) (fun M1 => zjo (fun  (M3 : zM) => zlt (((1 : Int32) <<< ((M3 t 1) &&& 31)) - 1) (fun v1 => F_X12_round_L31 t a1 (fun (y5 : Int32) (M11 : zM) => zjo (fun (w4 : Int32) (M12 : zM) => zI w4 M12) (fun (k4 : Int32 → zM → zO) => zit (a1 = (-1)) (k4 y5 M11) (zck (zin a1 8) (k4 (M11 (zgr t 53) (zix a1)) M11)))) zN v1 0 M3)) (fun (k1 : zM → zO) => zit (a1 = (-1)) (k1 M1) (zbI (F_X12_isOne t a1 M1) (fun r1 M2 => zit (r1 = 0) (zI 0 M2) (k1 M2)))))
set_option maxHeartbeats 1000000 in
set_option maxRecDepth 20000 in
theorem ct_X12_round_L69 (l : Launch) (hl : l.stackTraces = false) (G : zG) (x0 : Nat) (hx0 : zsh x0 = 12) (x1 : Int32) (x2 : Int32) (x3 : Int32) (x4 : Int32) (x5 : Int32) (K97 : Int32 → Int32 → zM → zO) (hK97 : ∀ (x6 : Int32) (x7 : Int32) (M : zM), zEv l G Y_X12_round 4 0 97 [(0, .ref (G.2.1 + x0)), (1, .int x1), (2, .int x2), (3, .int x3), (4, .int x4), (5, .int x5), (6, .int x6), (7, .int x7)] [] M (K97 x6 x7 M)) : ∀ (n : Nat) (x6 : Int32) (x7 : Int32) (M : zM), zEv l G Y_X12_round 4 0 69 [(0, .ref (G.2.1 + x0)), (1, .int x1), (2, .int x2), (3, .int x3), (4, .int x4), (5, .int x5), (6, .int x6), (7, .int x7)] [] M (F_X12_round_L69 x0 x1 x2 x3 x4 x5 K97 n x6 x7 M) := by
  intro n
  induction n with
  | zero => intro x6 x7 M; exact ev_none
  | succ n ih =>
    intro x6 x7 M
    show zEv l G Y_X12_round 4 0 69 [(0, .ref (G.2.1 + x0)), (1, .int x1), (2, .int x2), (3, .int x3), (4, .int x4), (5, .int x5), (6, .int x6), (7, .int x7)] [] M (zbI (F_X12_pointsTo x0 x7 x2 M) (fun r2 M4 => zit (r2 = x5) (K97 (x6 + 1) r2 M4) (zit ((x6 + 1) ≤ (M4 x0 1)) (F_X12_round_L69 x0 x1 x2 x3 x4 x5 K97 n (x6 + 1) r2 M4) (K97 (x6 + 1) r2 M4))))
    refine ev_aload_n dd_X12_round_69 0 rfl ?_
    refine ev_iload dd_X12_round_70 7 rfl ?_
    refine ev_lv (lv' := [(0, .ref (G.2.1 + x0)), (1, .int x1), (2, .int x2), (3, .int x3), (4, .int x4), (5, .int x5), (6, .int x6)]) [0, 1, 2, 3, 4, 5, 6] rfl ?_
    refine ev_iload_n dd_X12_round_72 2 rfl ?_
    refine ev_callVI (As := [.int x7, .int x2]) cl_RX12_403 (ct_X12_pointsTo l hl G x0 hx0 x7 x2 M) dd_X12_round_73 hx0 (by decide) (Nat.le_of_ble_eq_true rfl) (Nat.le_of_ble_eq_true rfl) rfl rfl (fun r2 M4 => ?_)
    refine ev_istore (i := 7) (lv' := [(0, .ref (G.2.1 + x0)), (1, .int x1), (2, .int x2), (3, .int x3), (4, .int x4), (5, .int x5), (6, .int x6), (7, .int r2)]) [1, 2, 3, 4, 5, 6, 7, 0] dd_X12_round_76 (by decide) rfl ?_
    refine ev_iinc (j := 6) (v := 1) (lv' := [(0, .ref (G.2.1 + x0)), (1, .int x1), (2, .int x2), (3, .int x3), (4, .int x4), (5, .int x5), (6, .int (x6 + 1)), (7, .int r2)]) [1, 2, 3, 4, 5, 6, 0, 7] dd_X12_round_78 rfl (by decide) (by decide) rfl ?_
    refine ev_iload dd_X12_round_81 7 rfl ?_
    refine ev_iload dd_X12_round_83 5 rfl ?_
    refine ev_icmp_eq 97 dd_X12_round_85 (by decide) ?_ ?_
    · exact hK97 _ _ _
    · refine ev_iload dd_X12_round_88 6 rfl ?_
      refine ev_aload_n dd_X12_round_90 0 rfl ?_
      refine ev_getI gf_RX12_319 dd_X12_round_91 hx0 (by decide) ?_
      refine ev_icmp_le 69 dd_X12_round_94 (by decide) ?_ ?_
      · exact ih _ _ _
      · exact hK97 _ _ _
set_option maxHeartbeats 1000000 in
set_option maxRecDepth 20000 in
theorem ct_X12_round_L41 (l : Launch) (hl : l.stackTraces = false) (G : zG) (x0 : Nat) (hx0 : zsh x0 = 12) (x1 : Int32) (x2 : Int32) (K154 : Int32 → Int32 → zM → zO) (hK154 : ∀ (x3 : Int32) (x4 : Int32) (M : zM), zEv l G Y_X12_round 4 0 154 [(0, .ref (G.2.1 + x0)), (1, .int x1), (2, .int x2), (3, .int x3), (4, .int x4)] [] M (K154 x3 x4 M)) : ∀ (n : Nat) (x3 : Int32) (x4 : Int32) (x5 : Int32) (M : zM), zEv l G Y_X12_round 4 0 41 [(0, .ref (G.2.1 + x0)), (1, .int x1), (2, .int x2), (3, .int x3), (4, .int x4), (5, .int x5)] [] M (F_X12_round_L41 x0 x1 x2 K154 n x3 x4 x5 M) := by
  intro n
  induction n with
  | zero => intro x3 x4 x5 M; exact ev_none
  | succ n ih =>
    intro x3 x4 x5 M
    show zEv l G Y_X12_round 4 0 41 [(0, .ref (G.2.1 + x0)), (1, .int x1), (2, .int x2), (3, .int x3), (4, .int x4), (5, .int x5)] [] M (zit ((M x0 1) ≤ x5) (K154 x3 x4 M) (zjo (fun (w2 : Int32) (w3 : Int32) (M9 : zM) => F_X12_round_L41 x0 x1 x2 K154 n w2 w3 (x5 + 1) M9) (fun (k2 : Int32 → Int32 → zM → zO) => zit (((x2 >>> (x5 &&& 31)) &&& 1) = 0) (k2 x3 x4 M) (F_X12_round_L69 x0 x1 x2 x3 x4 x5 (fun (y1 : Int32) (y2 : Int32) (M5 : zM) => zit (y2 = x5) (zbI (F_X12_pointsTo x0 x5 x2 M5) (fun r3 M6 => zck (zin r3 73) (zck (zin x5 8) (zst (zup M6 (zgr x0 53) (zix x5) (M6 (zgr x0 47) (zix r3))) (fun M7 => zlt (x4 ||| ((1 : Int32) <<< (x5 &&& 31))) (fun v2 => zjo (fun (w1 : Int32) (M8 : zM) => k2 w1 v2 M8) (fun (k3 : Int32 → zM → zO) => zit (y1 ≤ x3) (k3 x3 M7) (k3 y1 M7)))))))) (k2 x3 x4 M5)) zN 0 x5 M))))
    refine ev_iload dd_X12_round_41 5 rfl ?_
    refine ev_aload_n dd_X12_round_43 0 rfl ?_
    refine ev_getI gf_RX12_319 dd_X12_round_44 hx0 (by decide) ?_
    refine ev_icmp_ge 154 dd_X12_round_47 (by decide) ?_ ?_
    · refine ev_lv (lv' := [(0, .ref (G.2.1 + x0)), (1, .int x1), (2, .int x2), (3, .int x3), (4, .int x4)]) [0, 1, 2, 3, 4] rfl ?_
      exact hK154 _ _ _
    · refine ev_iload_n dd_X12_round_50 2 rfl ?_
      refine ev_iload dd_X12_round_51 5 rfl ?_
      refine ev_ishr dd_X12_round_53 ?_
      refine ev_iconst (v := 1) dd_X12_round_54 (by decide) ?_
      refine ev_iand dd_X12_round_55 ?_
      refine ev_jo (fun (k2 : Int32 → Int32 → zM → zO) => ∀ (w2 : Int32) (w3 : Int32) (M9 : zM), zEv l G Y_X12_round 4 0 148 [(0, .ref (G.2.1 + x0)), (1, .int x1), (2, .int x2), (3, .int w2), (4, .int w3), (5, .int x5)] [] M9 (k2 w2 w3 M9)) ?_ (fun k2 hk2 => ?_)
      · intro w2 w3 M9
        refine ev_iinc (j := 5) (v := 1) (lv' := [(0, .ref (G.2.1 + x0)), (1, .int x1), (2, .int x2), (3, .int w2), (4, .int w3), (5, .int (x5 + 1))]) [1, 2, 3, 4, 5, 0] dd_X12_round_148 rfl (by decide) (by decide) rfl ?_
        refine ev_goto 41 dd_X12_round_151 (by decide) ?_
        exact ih _ _ _ _
      · refine ev_if_ne 62 dd_X12_round_56 (by decide) ?_ ?_
        · refine ev_iconst (v := 0) dd_X12_round_62 (by decide) ?_
          refine ev_istore (i := 6) (lv' := [(0, .ref (G.2.1 + x0)), (1, .int x1), (2, .int x2), (3, .int x3), (4, .int x4), (5, .int x5), (6, .int 0)]) [1, 2, 3, 4, 5, 6, 0] dd_X12_round_63 (by decide) rfl ?_
          refine ev_iload dd_X12_round_65 5 rfl ?_
          refine ev_istore (i := 7) (lv' := [(0, .ref (G.2.1 + x0)), (1, .int x1), (2, .int x2), (3, .int x3), (4, .int x4), (5, .int x5), (6, .int 0), (7, .int x5)]) [1, 2, 3, 4, 5, 6, 7, 0] dd_X12_round_67 (by decide) rfl ?_
          refine ct_X12_round_L69 l hl G x0 hx0 x1 x2 x3 x4 x5 _ (fun y1 y2 M5 => ?_) zN _ _ _
          refine ev_iload dd_X12_round_97 7 rfl ?_
          refine ev_lv (lv' := [(0, .ref (G.2.1 + x0)), (1, .int x1), (2, .int x2), (3, .int x3), (4, .int x4), (5, .int x5), (6, .int y1)]) [0, 1, 2, 3, 4, 5, 6] rfl ?_
          refine ev_iload dd_X12_round_99 5 rfl ?_
          refine ev_icmp_eq 107 dd_X12_round_101 (by decide) ?_ ?_
          · refine ev_aload_n dd_X12_round_107 0 rfl ?_
            refine ev_getR gf_RX12_102 dd_X12_round_108 hx0 (by decide) ?_
            refine ev_iload dd_X12_round_111 5 rfl ?_
            refine ev_aload_n dd_X12_round_113 0 rfl ?_
            refine ev_getR gf_RX12_87 dd_X12_round_114 hx0 (by decide) ?_
            refine ev_aload_n dd_X12_round_117 0 rfl ?_
            refine ev_iload dd_X12_round_118 5 rfl ?_
            refine ev_iload_n dd_X12_round_120 2 rfl ?_
            refine ev_callVI (As := [.int x5, .int x2]) cl_RX12_403 (ct_X12_pointsTo l hl G x0 hx0 x5 x2 M5) dd_X12_round_121 hx0 (by decide) (Nat.le_of_ble_eq_true rfl) (Nat.le_of_ble_eq_true rfl) rfl rfl (fun r3 M6 => ?_)
            refine ev_iald dd_X12_round_124 ((zg_12_47 hx0).1) ((zg_12_47 hx0).2) ?_
            refine ev_iast dd_X12_round_125 ((zg_12_53 hx0).1) ((zg_12_53 hx0).2) ?_
            refine ev_st (fun M7 => ?_)
            refine ev_iload dd_X12_round_126 4 rfl ?_
            refine ev_lv (lv' := [(0, .ref (G.2.1 + x0)), (1, .int x1), (2, .int x2), (3, .int x3), (5, .int x5), (6, .int y1)]) [0, 1, 2, 3, 5, 6] rfl ?_
            refine ev_iconst (v := 1) dd_X12_round_128 (by decide) ?_
            refine ev_iload dd_X12_round_129 4 rfl ?_
            refine ev_ishl dd_X12_round_131 ?_
            refine ev_ior dd_X12_round_132 ?_
            refine ev_topi (fun v2 => ?_)
            refine ev_istore (i := 4) (lv' := [(0, .ref (G.2.1 + x0)), (1, .int x1), (2, .int x2), (3, .int x3), (4, .int v2), (5, .int x5), (6, .int y1)]) [1, 2, 3, 4, 0, 5, 6] dd_X12_round_133 (by decide) rfl ?_
            refine ev_iload dd_X12_round_135 6 rfl ?_
            refine ev_iload_n dd_X12_round_137 3 rfl ?_
            refine ev_jo (fun (k3 : Int32 → zM → zO) => ∀ (w1 : Int32) (M8 : zM), zEv l G Y_X12_round 4 0 147 [(0, .ref (G.2.1 + x0)), (1, .int x1), (2, .int x2), (4, .int v2), (5, .int x5)] [.int w1] M8 (k3 w1 M8)) ?_ (fun k3 hk3 => ?_)
            · intro w1 M8
              refine ev_istore_n (i := 3) (lv' := [(0, .ref (G.2.1 + x0)), (1, .int x1), (2, .int x2), (3, .int w1), (4, .int v2), (5, .int x5)]) [1, 2, 3, 0, 4, 5] dd_X12_round_147 rfl (by decide) rfl ?_
              exact hk2 _ _ _
            · refine ev_icmp_le 146 dd_X12_round_138 (by decide) ?_ ?_
              · refine ev_lv (lv' := [(0, .ref (G.2.1 + x0)), (1, .int x1), (2, .int x2), (3, .int x3), (4, .int v2), (5, .int x5)]) [0, 1, 2, 3, 4, 5] rfl ?_
                refine ev_iload_n dd_X12_round_146 3 rfl ?_
                refine ev_lv (lv' := [(0, .ref (G.2.1 + x0)), (1, .int x1), (2, .int x2), (4, .int v2), (5, .int x5)]) [0, 1, 2, 4, 5] rfl ?_
                exact hk3 _ _
              · refine ev_lv (lv' := [(0, .ref (G.2.1 + x0)), (1, .int x1), (2, .int x2), (4, .int v2), (5, .int x5), (6, .int y1)]) [0, 1, 2, 4, 5, 6] rfl ?_
                refine ev_iload dd_X12_round_141 5 rfl ?_
                refine ev_lv (lv' := [(0, .ref (G.2.1 + x0)), (1, .int x1), (2, .int x2), (4, .int v2), (5, .int x5)]) [0, 1, 2, 3, 4] rfl ?_
                refine ev_goto 147 dd_X12_round_143 (by decide) ?_
                exact hk3 _ _
          · refine ev_lv (lv' := [(0, .ref (G.2.1 + x0)), (1, .int x1), (2, .int x2), (3, .int x3), (4, .int x4), (5, .int x5)]) [0, 1, 2, 3, 4, 5] rfl ?_
            refine ev_goto 148 dd_X12_round_104 (by decide) ?_
            exact hk2 _ _ _
        · refine ev_goto 148 dd_X12_round_59 (by decide) ?_
          exact hk2 _ _ _
set_option maxHeartbeats 1000000 in
set_option maxRecDepth 20000 in
theorem ct_X12_round_L31 (l : Launch) (hl : l.stackTraces = false) (G : zG) (x0 : Nat) (hx0 : zsh x0 = 12) (x1 : Int32) (K164 : Int32 → zM → zO) (hK164 : ∀ (x3 : Int32) (M : zM), zEv l G Y_X12_round 4 0 164 [(0, .ref (G.2.1 + x0)), (1, .int x1), (3, .int x3)] [] M (K164 x3 M)) : ∀ (n : Nat) (x2 : Int32) (x3 : Int32) (M : zM), zEv l G Y_X12_round 4 0 31 [(0, .ref (G.2.1 + x0)), (1, .int x1), (2, .int x2), (3, .int x3)] [] M (F_X12_round_L31 x0 x1 K164 n x2 x3 M) := by
  intro n
  induction n with
  | zero => intro x2 x3 M; exact ev_none
  | succ n ih =>
    intro x2 x3 M
    show zEv l G Y_X12_round 4 0 31 [(0, .ref (G.2.1 + x0)), (1, .int x1), (2, .int x2), (3, .int x3)] [] M (zit (x2 = 0) (K164 x3 M) (F_X12_round_L41 x0 x1 x2 (fun (y3 : Int32) (y4 : Int32) (M10 : zM) => zlt (x2 &&& (y4 ^^^ (-1))) (fun v3 => F_X12_round_L31 x0 x1 K164 n v3 y3 M10)) zN x3 0 0 M))
    refine ev_iload_n dd_X12_round_31 2 rfl ?_
    refine ev_if_eq 164 dd_X12_round_32 (by decide) ?_ ?_
    · refine ev_lv (lv' := [(0, .ref (G.2.1 + x0)), (1, .int x1), (3, .int x3)]) [0, 1, 3] rfl ?_
      exact hK164 _ _
    · refine ev_iconst (v := 0) dd_X12_round_35 (by decide) ?_
      refine ev_istore (i := 4) (lv' := [(0, .ref (G.2.1 + x0)), (1, .int x1), (2, .int x2), (3, .int x3), (4, .int 0)]) [1, 2, 3, 4, 0] dd_X12_round_36 (by decide) rfl ?_
      refine ev_iconst (v := 0) dd_X12_round_38 (by decide) ?_
      refine ev_istore (i := 5) (lv' := [(0, .ref (G.2.1 + x0)), (1, .int x1), (2, .int x2), (3, .int x3), (4, .int 0), (5, .int 0)]) [1, 2, 3, 4, 5, 0] dd_X12_round_39 (by decide) rfl ?_
      refine ct_X12_round_L41 l hl G x0 hx0 x1 x2 _ (fun y3 y4 M10 => ?_) zN _ _ _ _
      refine ev_iload_n dd_X12_round_154 2 rfl ?_
      refine ev_lv (lv' := [(0, .ref (G.2.1 + x0)), (1, .int x1), (3, .int y3), (4, .int y4)]) [0, 1, 3, 4] rfl ?_
      refine ev_iload dd_X12_round_155 3 rfl ?_
      refine ev_lv (lv' := [(0, .ref (G.2.1 + x0)), (1, .int x1), (3, .int y3)]) [0, 1, 2] rfl ?_
      refine ev_iconst (v := (-1)) dd_X12_round_157 (by decide) ?_
      refine ev_ixor dd_X12_round_158 ?_
      refine ev_iand dd_X12_round_159 ?_
      refine ev_topi (fun v3 => ?_)
      refine ev_istore_n (i := 2) (lv' := [(0, .ref (G.2.1 + x0)), (1, .int x1), (2, .int v3), (3, .int y3)]) [1, 2, 0, 3] dd_X12_round_160 rfl (by decide) rfl ?_
      refine ev_goto 31 dd_X12_round_161 (by decide) ?_
      exact ih _ _ _
set_option maxHeartbeats 1000000 in
set_option maxRecDepth 20000 in
theorem ct_X12_round (l : Launch) (hl : l.stackTraces = false) (G : zG) (t : Nat) (ht : zsh t = 12) (a1 : Int32) (M : zM) : zMt l G Y_X12_round 4 [.ref (G.2.1 + t), .int a1] M (F_X12_round t a1 M) := by
  refine zMt_of (by decide +kernel) (Nat.le_of_ble_eq_true rfl) ?_
  show zEv l G Y_X12_round 4 0 0 [(0, .ref (G.2.1 + t)), (1, .int a1)] [] M (zst (zup M t 0 0) (fun M1 => zjo (fun  (M3 : zM) => zlt (((1 : Int32) <<< ((M3 t 1) &&& 31)) - 1) (fun v1 => F_X12_round_L31 t a1 (fun (y5 : Int32) (M11 : zM) => zjo (fun (w4 : Int32) (M12 : zM) => zI w4 M12) (fun (k4 : Int32 → zM → zO) => zit (a1 = (-1)) (k4 y5 M11) (zck (zin a1 8) (k4 (M11 (zgr t 53) (zix a1)) M11)))) zN v1 0 M3)) (fun (k1 : zM → zO) => zit (a1 = (-1)) (k1 M1) (zbI (F_X12_isOne t a1 M1) (fun r1 M2 => zit (r1 = 0) (zI 0 M2) (k1 M2))))))
  refine ev_aload_n dd_X12_round_0 0 rfl ?_
  refine ev_iconst (v := 0) dd_X12_round_1 (by decide) ?_
  refine ev_putI gw_RX12_153 dd_X12_round_2 ht (by decide) ?_
  refine ev_st (fun M1 => ?_)
  refine ev_iload_n dd_X12_round_5 1 rfl ?_
  refine ev_iconst (v := (-1)) dd_X12_round_6 (by decide) ?_
  refine ev_jo (fun (k1 : zM → zO) => ∀  (M3 : zM), zEv l G Y_X12_round 4 0 20 [(0, .ref (G.2.1 + t)), (1, .int a1)] [] M3 (k1 M3)) ?_ (fun k1 hk1 => ?_)
  · intro M3
    refine ev_iconst (v := 1) dd_X12_round_20 (by decide) ?_
    refine ev_aload_n dd_X12_round_21 0 rfl ?_
    refine ev_getI gf_RX12_319 dd_X12_round_22 ht (by decide) ?_
    refine ev_ishl dd_X12_round_25 ?_
    refine ev_iconst (v := 1) dd_X12_round_26 (by decide) ?_
    refine ev_isub dd_X12_round_27 ?_
    refine ev_topi (fun v1 => ?_)
    refine ev_istore_n (i := 2) (lv' := [(0, .ref (G.2.1 + t)), (1, .int a1), (2, .int v1)]) [1, 2, 0] dd_X12_round_28 rfl (by decide) rfl ?_
    refine ev_iconst (v := 0) dd_X12_round_29 (by decide) ?_
    refine ev_istore_n (i := 3) (lv' := [(0, .ref (G.2.1 + t)), (1, .int a1), (2, .int v1), (3, .int 0)]) [1, 2, 3, 0] dd_X12_round_30 rfl (by decide) rfl ?_
    refine ct_X12_round_L31 l hl G t ht a1 _ (fun y5 M11 => ?_) zN _ _ _
    refine ev_iload_n dd_X12_round_164 1 rfl ?_
    refine ev_iconst (v := (-1)) dd_X12_round_165 (by decide) ?_
    refine ev_jo (fun (k4 : Int32 → zM → zO) => ∀ (w4 : Int32) (M12 : zM), zEv l G Y_X12_round 4 0 179 [] [.int w4] M12 (k4 w4 M12)) ?_ (fun k4 hk4 => ?_)
    · intro w4 M12
      exact ev_iret dd_X12_round_179 rfl (Nat.le_of_ble_eq_true rfl) rfl
    · refine ev_icmp_ne 173 dd_X12_round_166 (by decide) ?_ ?_
      · refine ev_lv (lv' := [(0, .ref (G.2.1 + t)), (1, .int a1)]) [0, 1] rfl ?_
        refine ev_aload_n dd_X12_round_173 0 rfl ?_
        refine ev_lv (lv' := [(1, .int a1)]) [1] rfl ?_
        refine ev_getR gf_RX12_102 dd_X12_round_174 ht (by decide) ?_
        refine ev_iload_n dd_X12_round_177 0 rfl ?_
        refine ev_lv (lv' := []) [] rfl ?_
        refine ev_iald dd_X12_round_178 ((zg_12_53 ht).1) ((zg_12_53 ht).2) ?_
        exact hk4 _ _
      · refine ev_lv (lv' := [(3, .int y5)]) [2] rfl ?_
        refine ev_iload_n dd_X12_round_169 0 rfl ?_
        refine ev_lv (lv' := []) [] rfl ?_
        refine ev_goto 179 dd_X12_round_170 (by decide) ?_
        exact hk4 _ _
  · refine ev_icmp_eq 20 dd_X12_round_7 (by decide) ?_ ?_
    · exact hk1 _
    · refine ev_aload_n dd_X12_round_10 0 rfl ?_
      refine ev_iload_n dd_X12_round_11 1 rfl ?_
      refine ev_callVI (As := [.int a1]) cl_RX12_346 (ct_X12_isOne l hl G t ht a1 M1) dd_X12_round_12 ht (by decide) (Nat.le_of_ble_eq_true rfl) (Nat.le_of_ble_eq_true rfl) rfl rfl (fun r1 M2 => ?_)
      refine ev_if_ne 20 dd_X12_round_15 (by decide) ?_ ?_
      · exact hk1 _
      · refine ev_lv (lv' := []) [] rfl ?_
        refine ev_iconst (v := 0) dd_X12_round_18 (by decide) ?_
        exact ev_iret dd_X12_round_19 rfl (Nat.le_of_ble_eq_true rfl) rfl
/-! X12_sales -/
theorem dd_X12_sales_0 : decode Y_X12_sales.2.1 0 = .ok (.aload_n 0, 1) := by decide +kernel
theorem dd_X12_sales_1 : decode Y_X12_sales.2.1 1 = .ok (.iconst 0, 1) := by decide +kernel
theorem dd_X12_sales_2 : decode Y_X12_sales.2.1 2 = .ok (.putfield 153, 3) := by decide +kernel
theorem dd_X12_sales_5 : decode Y_X12_sales.2.1 5 = .ok (.aload_n 0, 1) := by decide +kernel
theorem dd_X12_sales_6 : decode Y_X12_sales.2.1 6 = .ok (.iload_n 2, 1) := by decide +kernel
theorem dd_X12_sales_7 : decode Y_X12_sales.2.1 7 = .ok (.iconst (-1), 1) := by decide +kernel
theorem dd_X12_sales_8 : decode Y_X12_sales.2.1 8 = .ok (.if_icmp .lt 7, 3) := by decide +kernel
theorem dd_X12_sales_11 : decode Y_X12_sales.2.1 11 = .ok (.iconst 1, 1) := by decide +kernel
theorem dd_X12_sales_12 : decode Y_X12_sales.2.1 12 = .ok (.goto 4, 3) := by decide +kernel
theorem dd_X12_sales_15 : decode Y_X12_sales.2.1 15 = .ok (.iconst 0, 1) := by decide +kernel
theorem dd_X12_sales_16 : decode Y_X12_sales.2.1 16 = .ok (.iconst 1, 1) := by decide +kernel
theorem dd_X12_sales_17 : decode Y_X12_sales.2.1 17 = .ok (.invokevirtual 312, 3) := by decide +kernel
theorem dd_X12_sales_20 : decode Y_X12_sales.2.1 20 = .ok (.ifCond .eq 17, 3) := by decide +kernel
theorem dd_X12_sales_23 : decode Y_X12_sales.2.1 23 = .ok (.aload_n 0, 1) := by decide +kernel
theorem dd_X12_sales_24 : decode Y_X12_sales.2.1 24 = .ok (.iload_n 1, 1) := by decide +kernel
theorem dd_X12_sales_25 : decode Y_X12_sales.2.1 25 = .ok (.iconst 0, 1) := by decide +kernel
theorem dd_X12_sales_26 : decode Y_X12_sales.2.1 26 = .ok (.iconst 3, 1) := by decide +kernel
theorem dd_X12_sales_27 : decode Y_X12_sales.2.1 27 = .ok (.invokestatic 339, 3) := by decide +kernel
theorem dd_X12_sales_30 : decode Y_X12_sales.2.1 30 = .ok (.iconst 2, 1) := by decide +kernel
theorem dd_X12_sales_31 : decode Y_X12_sales.2.1 31 = .ok (.invokevirtual 312, 3) := by decide +kernel
theorem dd_X12_sales_34 : decode Y_X12_sales.2.1 34 = .ok (.ifCond .ne 5, 3) := by decide +kernel
theorem dd_X12_sales_37 : decode Y_X12_sales.2.1 37 = .ok (.iconst 0, 1) := by decide +kernel
theorem dd_X12_sales_38 : decode Y_X12_sales.2.1 38 = .ok (.ireturn, 1) := by decide +kernel
theorem dd_X12_sales_39 : decode Y_X12_sales.2.1 39 = .ok (.aload_n 0, 1) := by decide +kernel
theorem dd_X12_sales_40 : decode Y_X12_sales.2.1 40 = .ok (.iload_n 1, 1) := by decide +kernel
theorem dd_X12_sales_41 : decode Y_X12_sales.2.1 41 = .ok (.invokevirtual 459, 3) := by decide +kernel
theorem dd_X12_sales_44 : decode Y_X12_sales.2.1 44 = .ok (.iload_n 2, 1) := by decide +kernel
theorem dd_X12_sales_45 : decode Y_X12_sales.2.1 45 = .ok (.iconst (-1), 1) := by decide +kernel
theorem dd_X12_sales_46 : decode Y_X12_sales.2.1 46 = .ok (.if_icmp .ne 10, 3) := by decide +kernel
theorem dd_X12_sales_49 : decode Y_X12_sales.2.1 49 = .ok (.aload_n 0, 1) := by decide +kernel
theorem dd_X12_sales_50 : decode Y_X12_sales.2.1 50 = .ok (.getfield 456, 3) := by decide +kernel
theorem dd_X12_sales_53 : decode Y_X12_sales.2.1 53 = .ok (.goto 25, 3) := by decide +kernel
theorem dd_X12_sales_56 : decode Y_X12_sales.2.1 56 = .ok (.aload_n 0, 1) := by decide +kernel
theorem dd_X12_sales_57 : decode Y_X12_sales.2.1 57 = .ok (.getfield 456, 3) := by decide +kernel
theorem dd_X12_sales_60 : decode Y_X12_sales.2.1 60 = .ok (.ifCond .le 17, 3) := by decide +kernel
theorem dd_X12_sales_63 : decode Y_X12_sales.2.1 63 = .ok (.iload_n 2, 1) := by decide +kernel
theorem dd_X12_sales_64 : decode Y_X12_sales.2.1 64 = .ok (.iload_n 1, 1) := by decide +kernel
theorem dd_X12_sales_65 : decode Y_X12_sales.2.1 65 = .ok (.if_icmp .ge 12, 3) := by decide +kernel
theorem dd_X12_sales_68 : decode Y_X12_sales.2.1 68 = .ok (.aload_n 0, 1) := by decide +kernel
theorem dd_X12_sales_69 : decode Y_X12_sales.2.1 69 = .ok (.getfield 138, 3) := by decide +kernel
theorem dd_X12_sales_72 : decode Y_X12_sales.2.1 72 = .ok (.iload_n 2, 1) := by decide +kernel
theorem dd_X12_sales_73 : decode Y_X12_sales.2.1 73 = .ok (.iaload, 1) := by decide +kernel
theorem dd_X12_sales_74 : decode Y_X12_sales.2.1 74 = .ok (.goto 4, 3) := by decide +kernel
theorem dd_X12_sales_77 : decode Y_X12_sales.2.1 77 = .ok (.iconst (-1), 1) := by decide +kernel
theorem dd_X12_sales_78 : decode Y_X12_sales.2.1 78 = .ok (.ireturn, 1) := by decide +kernel
def F_X12_sales (t : Nat) (a1 : Int32) (a2 : Int32) (M : zM) : zO := zst (zup M t 0 0) (fun M1 => zjo (fun (w1 : Int32) (M2 : zM) => zbI (F_X12_right t w1 1 M2) (fun r1 M3 => zjo (fun  (M9 : zM) => zI 0 M9) (fun (k2 : zM → zO) => zit (r1 = 0) (k2 M3) (zbI (F_X12_within a1 0 3 M3) (fun r2 M4 => zbI (F_X12_right t r2 2 M4) (fun r3 M5 => zit (r3 = 0) (k2 M5) (zbV (F_X12_sells t a1 M5) (fun M6 => zjo (fun (w2 : Int32) (M8 : zM) => zI w2 M8) (fun (k3 : Int32 → zM → zO) => zit (a2 = (-1)) (k3 (M6 t 71) M6) (zjo (fun  (M7 : zM) => k3 (-1) M7) (fun (k4 : zM → zO) => zit ((M6 t 71) ≤ 0) (k4 M6) (zit (a1 ≤ a2) (k4 M6) (zck (zin a2 3) (k3 (M6 (zgr t 68) (zix a2)) M6)))))))))))))) (fun (k1 : Int32 → zM → zO) => zit (a2 < (-1)) (k1 0 M1) (k1 1 M1)))
set_option maxHeartbeats 1000000 in
set_option maxRecDepth 20000 in
theorem ct_X12_sales (l : Launch) (hl : l.stackTraces = false) (G : zG) (t : Nat) (ht : zsh t = 12) (a1 : Int32) (a2 : Int32) (M : zM) : zMt l G Y_X12_sales 6 [.ref (G.2.1 + t), .int a1, .int a2] M (F_X12_sales t a1 a2 M) := by
  refine zMt_of (by decide +kernel) (Nat.le_of_ble_eq_true rfl) ?_
  show zEv l G Y_X12_sales 6 0 0 [(0, .ref (G.2.1 + t)), (1, .int a1), (2, .int a2)] [] M (zst (zup M t 0 0) (fun M1 => zjo (fun (w1 : Int32) (M2 : zM) => zbI (F_X12_right t w1 1 M2) (fun r1 M3 => zjo (fun  (M9 : zM) => zI 0 M9) (fun (k2 : zM → zO) => zit (r1 = 0) (k2 M3) (zbI (F_X12_within a1 0 3 M3) (fun r2 M4 => zbI (F_X12_right t r2 2 M4) (fun r3 M5 => zit (r3 = 0) (k2 M5) (zbV (F_X12_sells t a1 M5) (fun M6 => zjo (fun (w2 : Int32) (M8 : zM) => zI w2 M8) (fun (k3 : Int32 → zM → zO) => zit (a2 = (-1)) (k3 (M6 t 71) M6) (zjo (fun  (M7 : zM) => k3 (-1) M7) (fun (k4 : zM → zO) => zit ((M6 t 71) ≤ 0) (k4 M6) (zit (a1 ≤ a2) (k4 M6) (zck (zin a2 3) (k3 (M6 (zgr t 68) (zix a2)) M6)))))))))))))) (fun (k1 : Int32 → zM → zO) => zit (a2 < (-1)) (k1 0 M1) (k1 1 M1))))
  refine ev_aload_n dd_X12_sales_0 0 rfl ?_
  refine ev_iconst (v := 0) dd_X12_sales_1 (by decide) ?_
  refine ev_putI gw_RX12_153 dd_X12_sales_2 ht (by decide) ?_
  refine ev_st (fun M1 => ?_)
  refine ev_aload_n dd_X12_sales_5 0 rfl ?_
  refine ev_iload_n dd_X12_sales_6 2 rfl ?_
  refine ev_iconst (v := (-1)) dd_X12_sales_7 (by decide) ?_
  refine ev_jo (fun (k1 : Int32 → zM → zO) => ∀ (w1 : Int32) (M2 : zM), zEv l G Y_X12_sales 6 0 16 [(0, .ref (G.2.1 + t)), (1, .int a1), (2, .int a2)] [.int w1, .ref (G.2.1 + t)] M2 (k1 w1 M2)) ?_ (fun k1 hk1 => ?_)
  · intro w1 M2
    refine ev_iconst (v := 1) dd_X12_sales_16 (by decide) ?_
    refine ev_callVI (As := [.int w1, .int 1]) cl_RX12_312 (ct_X12_right l hl G t ht w1 1 M2) dd_X12_sales_17 ht (by decide) (Nat.le_of_ble_eq_true rfl) (Nat.le_of_ble_eq_true rfl) rfl rfl (fun r1 M3 => ?_)
    refine ev_jo (fun (k2 : zM → zO) => ∀  (M9 : zM), zEv l G Y_X12_sales 6 0 37 [] [] M9 (k2 M9)) ?_ (fun k2 hk2 => ?_)
    · intro M9
      refine ev_iconst (v := 0) dd_X12_sales_37 (by decide) ?_
      exact ev_iret dd_X12_sales_38 rfl (Nat.le_of_ble_eq_true rfl) rfl
    · refine ev_if_eq 37 dd_X12_sales_20 (by decide) ?_ ?_
      · refine ev_lv (lv' := []) [] rfl ?_
        exact hk2 _
      · refine ev_aload_n dd_X12_sales_23 0 rfl ?_
        refine ev_iload_n dd_X12_sales_24 1 rfl ?_
        refine ev_iconst (v := 0) dd_X12_sales_25 (by decide) ?_
        refine ev_iconst (v := 3) dd_X12_sales_26 (by decide) ?_
        refine ev_callSI (As := [.int a1, .int 0, .int 3]) cl_RX12_339 (ct_X12_within l hl G a1 0 3 M3) dd_X12_sales_27 (by decide) (Nat.le_of_ble_eq_true rfl) (Nat.le_of_ble_eq_true rfl) rfl rfl (fun r2 M4 => ?_)
        refine ev_iconst (v := 2) dd_X12_sales_30 (by decide) ?_
        refine ev_callVI (As := [.int r2, .int 2]) cl_RX12_312 (ct_X12_right l hl G t ht r2 2 M4) dd_X12_sales_31 ht (by decide) (Nat.le_of_ble_eq_true rfl) (Nat.le_of_ble_eq_true rfl) rfl rfl (fun r3 M5 => ?_)
        refine ev_if_ne 39 dd_X12_sales_34 (by decide) ?_ ?_
        · refine ev_aload_n dd_X12_sales_39 0 rfl ?_
          refine ev_iload_n dd_X12_sales_40 1 rfl ?_
          refine ev_callVV (As := [.int a1]) cl_RX12_459 (ct_X12_sells l hl G t ht a1 M5) dd_X12_sales_41 ht (by decide) (Nat.le_of_ble_eq_true rfl) (Nat.le_of_ble_eq_true rfl) rfl rfl (fun M6 => ?_)
          refine ev_iload_n dd_X12_sales_44 2 rfl ?_
          refine ev_iconst (v := (-1)) dd_X12_sales_45 (by decide) ?_
          refine ev_jo (fun (k3 : Int32 → zM → zO) => ∀ (w2 : Int32) (M8 : zM), zEv l G Y_X12_sales 6 0 78 [] [.int w2] M8 (k3 w2 M8)) ?_ (fun k3 hk3 => ?_)
          · intro w2 M8
            exact ev_iret dd_X12_sales_78 rfl (Nat.le_of_ble_eq_true rfl) rfl
          · refine ev_icmp_ne 56 dd_X12_sales_46 (by decide) ?_ ?_
            · refine ev_aload_n dd_X12_sales_56 0 rfl ?_
              refine ev_getI gf_RX12_456 dd_X12_sales_57 ht (by decide) ?_
              refine ev_jo (fun (k4 : zM → zO) => ∀  (M7 : zM), zEv l G Y_X12_sales 6 0 77 [] [] M7 (k4 M7)) ?_ (fun k4 hk4 => ?_)
              · intro M7
                refine ev_iconst (v := (-1)) dd_X12_sales_77 (by decide) ?_
                exact hk3 _ _
              · refine ev_if_le 77 dd_X12_sales_60 (by decide) ?_ ?_
                · refine ev_lv (lv' := []) [] rfl ?_
                  exact hk4 _
                · refine ev_iload_n dd_X12_sales_63 2 rfl ?_
                  refine ev_iload_n dd_X12_sales_64 1 rfl ?_
                  refine ev_lv (lv' := [(0, .ref (G.2.1 + t)), (2, .int a2)]) [0, 2] rfl ?_
                  refine ev_icmp_ge 77 dd_X12_sales_65 (by decide) ?_ ?_
                  · refine ev_lv (lv' := []) [] rfl ?_
                    exact hk4 _
                  · refine ev_aload_n dd_X12_sales_68 0 rfl ?_
                    refine ev_lv (lv' := [(2, .int a2)]) [1] rfl ?_
                    refine ev_getR gf_RX12_138 dd_X12_sales_69 ht (by decide) ?_
                    refine ev_iload_n dd_X12_sales_72 0 rfl ?_
                    refine ev_lv (lv' := []) [] rfl ?_
                    refine ev_iald dd_X12_sales_73 ((zg_12_68 ht).1) ((zg_12_68 ht).2) ?_
                    refine ev_goto 78 dd_X12_sales_74 (by decide) ?_
                    exact hk3 _ _
            · refine ev_lv (lv' := [(0, .ref (G.2.1 + t))]) [0] rfl ?_
              refine ev_aload_n dd_X12_sales_49 0 rfl ?_
              refine ev_lv (lv' := []) [] rfl ?_
              refine ev_getI gf_RX12_456 dd_X12_sales_50 ht (by decide) ?_
              refine ev_goto 78 dd_X12_sales_53 (by decide) ?_
              exact hk3 _ _
        · refine ev_lv (lv' := []) [] rfl ?_
          exact hk2 _
  · refine ev_icmp_lt 15 dd_X12_sales_8 (by decide) ?_ ?_
    · refine ev_iconst (v := 0) dd_X12_sales_15 (by decide) ?_
      exact hk1 _ _
    · refine ev_iconst (v := 1) dd_X12_sales_11 (by decide) ?_
      refine ev_goto 16 dd_X12_sales_12 (by decide) ?_
      exact hk1 _ _
/-! X12_sea -/
theorem dd_X12_sea_0 : decode Y_X12_sea.2.1 0 = .ok (.aload_n 0, 1) := by decide +kernel
theorem dd_X12_sea_1 : decode Y_X12_sea.2.1 1 = .ok (.iconst 0, 1) := by decide +kernel
theorem dd_X12_sea_2 : decode Y_X12_sea.2.1 2 = .ok (.putfield 153, 3) := by decide +kernel
theorem dd_X12_sea_5 : decode Y_X12_sea.2.1 5 = .ok (.aload_n 0, 1) := by decide +kernel
theorem dd_X12_sea_6 : decode Y_X12_sea.2.1 6 = .ok (.iload_n 1, 1) := by decide +kernel
theorem dd_X12_sea_7 : decode Y_X12_sea.2.1 7 = .ok (.ifCond .lt 15, 3) := by decide +kernel
theorem dd_X12_sea_10 : decode Y_X12_sea.2.1 10 = .ok (.iload_n 1, 1) := by decide +kernel
theorem dd_X12_sea_11 : decode Y_X12_sea.2.1 11 = .ok (.aload_n 0, 1) := by decide +kernel
theorem dd_X12_sea_12 : decode Y_X12_sea.2.1 12 = .ok (.getfield 156, 3) := by decide +kernel
theorem dd_X12_sea_15 : decode Y_X12_sea.2.1 15 = .ok (.if_icmp .gt 7, 3) := by decide +kernel
theorem dd_X12_sea_18 : decode Y_X12_sea.2.1 18 = .ok (.iconst 1, 1) := by decide +kernel
theorem dd_X12_sea_19 : decode Y_X12_sea.2.1 19 = .ok (.goto 4, 3) := by decide +kernel
theorem dd_X12_sea_22 : decode Y_X12_sea.2.1 22 = .ok (.iconst 0, 1) := by decide +kernel
theorem dd_X12_sea_23 : decode Y_X12_sea.2.1 23 = .ok (.iconst 1, 1) := by decide +kernel
theorem dd_X12_sea_24 : decode Y_X12_sea.2.1 24 = .ok (.invokevirtual 312, 3) := by decide +kernel
theorem dd_X12_sea_27 : decode Y_X12_sea.2.1 27 = .ok (.ifCond .ne 5, 3) := by decide +kernel
theorem dd_X12_sea_30 : decode Y_X12_sea.2.1 30 = .ok (.iconst 0, 1) := by decide +kernel
theorem dd_X12_sea_31 : decode Y_X12_sea.2.1 31 = .ok (.ireturn, 1) := by decide +kernel
theorem dd_X12_sea_32 : decode Y_X12_sea.2.1 32 = .ok (.aload_n 0, 1) := by decide +kernel
theorem dd_X12_sea_33 : decode Y_X12_sea.2.1 33 = .ok (.iconst 0, 1) := by decide +kernel
theorem dd_X12_sea_34 : decode Y_X12_sea.2.1 34 = .ok (.putfield 156, 3) := by decide +kernel
theorem dd_X12_sea_37 : decode Y_X12_sea.2.1 37 = .ok (.aload_n 0, 1) := by decide +kernel
theorem dd_X12_sea_38 : decode Y_X12_sea.2.1 38 = .ok (.iconst (-1), 1) := by decide +kernel
theorem dd_X12_sea_39 : decode Y_X12_sea.2.1 39 = .ok (.putfield 47, 3) := by decide +kernel
theorem dd_X12_sea_42 : decode Y_X12_sea.2.1 42 = .ok (.aload_n 0, 1) := by decide +kernel
theorem dd_X12_sea_43 : decode Y_X12_sea.2.1 43 = .ok (.iconst 0, 1) := by decide +kernel
theorem dd_X12_sea_44 : decode Y_X12_sea.2.1 44 = .ok (.putfield 209, 3) := by decide +kernel
theorem dd_X12_sea_47 : decode Y_X12_sea.2.1 47 = .ok (.aload_n 0, 1) := by decide +kernel
theorem dd_X12_sea_48 : decode Y_X12_sea.2.1 48 = .ok (.iload_n 1, 1) := by decide +kernel
theorem dd_X12_sea_49 : decode Y_X12_sea.2.1 49 = .ok (.putfield 163, 3) := by decide +kernel
theorem dd_X12_sea_52 : decode Y_X12_sea.2.1 52 = .ok (.aload_n 0, 1) := by decide +kernel
theorem dd_X12_sea_53 : decode Y_X12_sea.2.1 53 = .ok (.iconst 0, 1) := by decide +kernel
theorem dd_X12_sea_54 : decode Y_X12_sea.2.1 54 = .ok (.putfield 166, 3) := by decide +kernel
theorem dd_X12_sea_57 : decode Y_X12_sea.2.1 57 = .ok (.aload_n 0, 1) := by decide +kernel
theorem dd_X12_sea_58 : decode Y_X12_sea.2.1 58 = .ok (.iconst 0, 1) := by decide +kernel
theorem dd_X12_sea_59 : decode Y_X12_sea.2.1 59 = .ok (.putfield 222, 3) := by decide +kernel
theorem dd_X12_sea_62 : decode Y_X12_sea.2.1 62 = .ok (.aload_n 0, 1) := by decide +kernel
theorem dd_X12_sea_63 : decode Y_X12_sea.2.1 63 = .ok (.iconst 0, 1) := by decide +kernel
theorem dd_X12_sea_64 : decode Y_X12_sea.2.1 64 = .ok (.putfield 285, 3) := by decide +kernel
theorem dd_X12_sea_67 : decode Y_X12_sea.2.1 67 = .ok (.aload_n 0, 1) := by decide +kernel
theorem dd_X12_sea_68 : decode Y_X12_sea.2.1 68 = .ok (.iconst 3, 1) := by decide +kernel
theorem dd_X12_sea_69 : decode Y_X12_sea.2.1 69 = .ok (.putfield 300, 3) := by decide +kernel
theorem dd_X12_sea_72 : decode Y_X12_sea.2.1 72 = .ok (.aload_n 0, 1) := by decide +kernel
theorem dd_X12_sea_73 : decode Y_X12_sea.2.1 73 = .ok (.iconst (-1), 1) := by decide +kernel
theorem dd_X12_sea_74 : decode Y_X12_sea.2.1 74 = .ok (.putfield 303, 3) := by decide +kernel
theorem dd_X12_sea_77 : decode Y_X12_sea.2.1 77 = .ok (.aload_n 0, 1) := by decide +kernel
theorem dd_X12_sea_78 : decode Y_X12_sea.2.1 78 = .ok (.iconst 0, 1) := by decide +kernel
theorem dd_X12_sea_79 : decode Y_X12_sea.2.1 79 = .ok (.putfield 297, 3) := by decide +kernel
theorem dd_X12_sea_82 : decode Y_X12_sea.2.1 82 = .ok (.aload_n 0, 1) := by decide +kernel
theorem dd_X12_sea_83 : decode Y_X12_sea.2.1 83 = .ok (.iconst 0, 1) := by decide +kernel
theorem dd_X12_sea_84 : decode Y_X12_sea.2.1 84 = .ok (.putfield 282, 3) := by decide +kernel
theorem dd_X12_sea_87 : decode Y_X12_sea.2.1 87 = .ok (.aload_n 0, 1) := by decide +kernel
theorem dd_X12_sea_88 : decode Y_X12_sea.2.1 88 = .ok (.iconst 0, 1) := by decide +kernel
theorem dd_X12_sea_89 : decode Y_X12_sea.2.1 89 = .ok (.putfield 225, 3) := by decide +kernel
theorem dd_X12_sea_92 : decode Y_X12_sea.2.1 92 = .ok (.iconst 0, 1) := by decide +kernel
theorem dd_X12_sea_93 : decode Y_X12_sea.2.1 93 = .ok (.istore_n 2, 1) := by decide +kernel
theorem dd_X12_sea_94 : decode Y_X12_sea.2.1 94 = .ok (.iload_n 2, 1) := by decide +kernel
theorem dd_X12_sea_95 : decode Y_X12_sea.2.1 95 = .ok (.bipush 8, 2) := by decide +kernel
theorem dd_X12_sea_97 : decode Y_X12_sea.2.1 97 = .ok (.if_icmp .ge 16, 3) := by decide +kernel
theorem dd_X12_sea_100 : decode Y_X12_sea.2.1 100 = .ok (.aload_n 0, 1) := by decide +kernel
theorem dd_X12_sea_101 : decode Y_X12_sea.2.1 101 = .ok (.getfield 71, 3) := by decide +kernel
theorem dd_X12_sea_104 : decode Y_X12_sea.2.1 104 = .ok (.iload_n 2, 1) := by decide +kernel
theorem dd_X12_sea_105 : decode Y_X12_sea.2.1 105 = .ok (.iconst 0, 1) := by decide +kernel
theorem dd_X12_sea_106 : decode Y_X12_sea.2.1 106 = .ok (.iastore, 1) := by decide +kernel
theorem dd_X12_sea_107 : decode Y_X12_sea.2.1 107 = .ok (.iinc 2 1, 3) := by decide +kernel
theorem dd_X12_sea_110 : decode Y_X12_sea.2.1 110 = .ok (.goto (-16), 3) := by decide +kernel
theorem dd_X12_sea_113 : decode Y_X12_sea.2.1 113 = .ok (.aload_n 0, 1) := by decide +kernel
theorem dd_X12_sea_114 : decode Y_X12_sea.2.1 114 = .ok (.invokevirtual 216, 3) := by decide +kernel
theorem dd_X12_sea_117 : decode Y_X12_sea.2.1 117 = .ok (.aload_n 0, 1) := by decide +kernel
theorem dd_X12_sea_118 : decode Y_X12_sea.2.1 118 = .ok (.invokevirtual 212, 3) := by decide +kernel
theorem dd_X12_sea_121 : decode Y_X12_sea.2.1 121 = .ok (.ifCond .eq 17, 3) := by decide +kernel
theorem dd_X12_sea_124 : decode Y_X12_sea.2.1 124 = .ok (.aload_n 0, 1) := by decide +kernel
theorem dd_X12_sea_125 : decode Y_X12_sea.2.1 125 = .ok (.getfield 186, 3) := by decide +kernel
theorem dd_X12_sea_128 : decode Y_X12_sea.2.1 128 = .ok (.ifCond .eq 10, 3) := by decide +kernel
theorem dd_X12_sea_131 : decode Y_X12_sea.2.1 131 = .ok (.aload_n 0, 1) := by decide +kernel
theorem dd_X12_sea_132 : decode Y_X12_sea.2.1 132 = .ok (.invokevirtual 316, 3) := by decide +kernel
theorem dd_X12_sea_135 : decode Y_X12_sea.2.1 135 = .ok (.goto (-18), 3) := by decide +kernel
theorem dd_X12_sea_138 : decode Y_X12_sea.2.1 138 = .ok (.aload_n 0, 1) := by decide +kernel
theorem dd_X12_sea_139 : decode Y_X12_sea.2.1 139 = .ok (.invokevirtual 212, 3) := by decide +kernel
theorem dd_X12_sea_142 : decode Y_X12_sea.2.1 142 = .ok (.ifCond .ne 18, 3) := by decide +kernel
theorem dd_X12_sea_145 : decode Y_X12_sea.2.1 145 = .ok (.aload_n 0, 1) := by decide +kernel
theorem dd_X12_sea_146 : decode Y_X12_sea.2.1 146 = .ok (.getfield 50, 3) := by decide +kernel
theorem dd_X12_sea_149 : decode Y_X12_sea.2.1 149 = .ok (.iconst 0, 1) := by decide +kernel
theorem dd_X12_sea_150 : decode Y_X12_sea.2.1 150 = .ok (.dup2, 1) := by decide +kernel
theorem dd_X12_sea_151 : decode Y_X12_sea.2.1 151 = .ok (.iaload, 1) := by decide +kernel
theorem dd_X12_sea_152 : decode Y_X12_sea.2.1 152 = .ok (.iconst 1, 1) := by decide +kernel
theorem dd_X12_sea_153 : decode Y_X12_sea.2.1 153 = .ok (.iadd, 1) := by decide +kernel
theorem dd_X12_sea_154 : decode Y_X12_sea.2.1 154 = .ok (.iastore, 1) := by decide +kernel
theorem dd_X12_sea_155 : decode Y_X12_sea.2.1 155 = .ok (.aload_n 0, 1) := by decide +kernel
theorem dd_X12_sea_156 : decode Y_X12_sea.2.1 156 = .ok (.getfield 209, 3) := by decide +kernel
theorem dd_X12_sea_159 : decode Y_X12_sea.2.1 159 = .ok (.ireturn, 1) := by decide +kernel
theorem dd_X12_sea_160 : decode Y_X12_sea.2.1 160 = .ok (.aload_n 0, 1) := by decide +kernel
theorem dd_X12_sea_161 : decode Y_X12_sea.2.1 161 = .ok (.aload_n 0, 1) := by decide +kernel
theorem dd_X12_sea_162 : decode Y_X12_sea.2.1 162 = .ok (.getfield 222, 3) := by decide +kernel
theorem dd_X12_sea_165 : decode Y_X12_sea.2.1 165 = .ok (.putfield 319, 3) := by decide +kernel
theorem dd_X12_sea_168 : decode Y_X12_sea.2.1 168 = .ok (.aload_n 0, 1) := by decide +kernel
theorem dd_X12_sea_169 : decode Y_X12_sea.2.1 169 = .ok (.aload_n 0, 1) := by decide +kernel
theorem dd_X12_sea_170 : decode Y_X12_sea.2.1 170 = .ok (.getfield 285, 3) := by decide +kernel
theorem dd_X12_sea_173 : decode Y_X12_sea.2.1 173 = .ok (.putfield 322, 3) := by decide +kernel
theorem dd_X12_sea_176 : decode Y_X12_sea.2.1 176 = .ok (.aload_n 0, 1) := by decide +kernel
theorem dd_X12_sea_177 : decode Y_X12_sea.2.1 177 = .ok (.aload_n 0, 1) := by decide +kernel
theorem dd_X12_sea_178 : decode Y_X12_sea.2.1 178 = .ok (.getfield 300, 3) := by decide +kernel
theorem dd_X12_sea_181 : decode Y_X12_sea.2.1 181 = .ok (.putfield 7, 3) := by decide +kernel
theorem dd_X12_sea_184 : decode Y_X12_sea.2.1 184 = .ok (.aload_n 0, 1) := by decide +kernel
theorem dd_X12_sea_185 : decode Y_X12_sea.2.1 185 = .ok (.aload_n 0, 1) := by decide +kernel
theorem dd_X12_sea_186 : decode Y_X12_sea.2.1 186 = .ok (.getfield 303, 3) := by decide +kernel
theorem dd_X12_sea_189 : decode Y_X12_sea.2.1 189 = .ok (.putfield 13, 3) := by decide +kernel
theorem dd_X12_sea_192 : decode Y_X12_sea.2.1 192 = .ok (.aload_n 0, 1) := by decide +kernel
theorem dd_X12_sea_193 : decode Y_X12_sea.2.1 193 = .ok (.aload_n 0, 1) := by decide +kernel
theorem dd_X12_sea_194 : decode Y_X12_sea.2.1 194 = .ok (.getfield 53, 3) := by decide +kernel
theorem dd_X12_sea_197 : decode Y_X12_sea.2.1 197 = .ok (.aload_n 0, 1) := by decide +kernel
theorem dd_X12_sea_198 : decode Y_X12_sea.2.1 198 = .ok (.getfield 16, 3) := by decide +kernel
theorem dd_X12_sea_201 : decode Y_X12_sea.2.1 201 = .ok (.invokevirtual 325, 3) := by decide +kernel
theorem dd_X12_sea_204 : decode Y_X12_sea.2.1 204 = .ok (.aload_n 0, 1) := by decide +kernel
theorem dd_X12_sea_205 : decode Y_X12_sea.2.1 205 = .ok (.aload_n 0, 1) := by decide +kernel
theorem dd_X12_sea_206 : decode Y_X12_sea.2.1 206 = .ok (.getfield 56, 3) := by decide +kernel
theorem dd_X12_sea_209 : decode Y_X12_sea.2.1 209 = .ok (.aload_n 0, 1) := by decide +kernel
theorem dd_X12_sea_210 : decode Y_X12_sea.2.1 210 = .ok (.getfield 20, 3) := by decide +kernel
theorem dd_X12_sea_213 : decode Y_X12_sea.2.1 213 = .ok (.invokevirtual 325, 3) := by decide +kernel
theorem dd_X12_sea_216 : decode Y_X12_sea.2.1 216 = .ok (.aload_n 0, 1) := by decide +kernel
theorem dd_X12_sea_217 : decode Y_X12_sea.2.1 217 = .ok (.aload_n 0, 1) := by decide +kernel
theorem dd_X12_sea_218 : decode Y_X12_sea.2.1 218 = .ok (.getfield 59, 3) := by decide +kernel
theorem dd_X12_sea_221 : decode Y_X12_sea.2.1 221 = .ok (.aload_n 0, 1) := by decide +kernel
theorem dd_X12_sea_222 : decode Y_X12_sea.2.1 222 = .ok (.getfield 23, 3) := by decide +kernel
theorem dd_X12_sea_225 : decode Y_X12_sea.2.1 225 = .ok (.invokevirtual 325, 3) := by decide +kernel
theorem dd_X12_sea_228 : decode Y_X12_sea.2.1 228 = .ok (.aload_n 0, 1) := by decide +kernel
theorem dd_X12_sea_229 : decode Y_X12_sea.2.1 229 = .ok (.aload_n 0, 1) := by decide +kernel
theorem dd_X12_sea_230 : decode Y_X12_sea.2.1 230 = .ok (.getfield 62, 3) := by decide +kernel
theorem dd_X12_sea_233 : decode Y_X12_sea.2.1 233 = .ok (.aload_n 0, 1) := by decide +kernel
theorem dd_X12_sea_234 : decode Y_X12_sea.2.1 234 = .ok (.getfield 26, 3) := by decide +kernel
theorem dd_X12_sea_237 : decode Y_X12_sea.2.1 237 = .ok (.invokevirtual 325, 3) := by decide +kernel
theorem dd_X12_sea_240 : decode Y_X12_sea.2.1 240 = .ok (.aload_n 0, 1) := by decide +kernel
theorem dd_X12_sea_241 : decode Y_X12_sea.2.1 241 = .ok (.aload_n 0, 1) := by decide +kernel
theorem dd_X12_sea_242 : decode Y_X12_sea.2.1 242 = .ok (.getfield 65, 3) := by decide +kernel
theorem dd_X12_sea_245 : decode Y_X12_sea.2.1 245 = .ok (.aload_n 0, 1) := by decide +kernel
theorem dd_X12_sea_246 : decode Y_X12_sea.2.1 246 = .ok (.getfield 29, 3) := by decide +kernel
theorem dd_X12_sea_249 : decode Y_X12_sea.2.1 249 = .ok (.invokevirtual 325, 3) := by decide +kernel
theorem dd_X12_sea_252 : decode Y_X12_sea.2.1 252 = .ok (.aload_n 0, 1) := by decide +kernel
theorem dd_X12_sea_253 : decode Y_X12_sea.2.1 253 = .ok (.aload_n 0, 1) := by decide +kernel
theorem dd_X12_sea_254 : decode Y_X12_sea.2.1 254 = .ok (.getfield 68, 3) := by decide +kernel
theorem dd_X12_sea_257 : decode Y_X12_sea.2.1 257 = .ok (.aload_n 0, 1) := by decide +kernel
theorem dd_X12_sea_258 : decode Y_X12_sea.2.1 258 = .ok (.getfield 32, 3) := by decide +kernel
theorem dd_X12_sea_261 : decode Y_X12_sea.2.1 261 = .ok (.invokevirtual 325, 3) := by decide +kernel
theorem dd_X12_sea_264 : decode Y_X12_sea.2.1 264 = .ok (.aload_n 0, 1) := by decide +kernel
theorem dd_X12_sea_265 : decode Y_X12_sea.2.1 265 = .ok (.aload_n 0, 1) := by decide +kernel
theorem dd_X12_sea_266 : decode Y_X12_sea.2.1 266 = .ok (.getfield 71, 3) := by decide +kernel
theorem dd_X12_sea_269 : decode Y_X12_sea.2.1 269 = .ok (.aload_n 0, 1) := by decide +kernel
theorem dd_X12_sea_270 : decode Y_X12_sea.2.1 270 = .ok (.getfield 35, 3) := by decide +kernel
theorem dd_X12_sea_273 : decode Y_X12_sea.2.1 273 = .ok (.invokevirtual 325, 3) := by decide +kernel
theorem dd_X12_sea_276 : decode Y_X12_sea.2.1 276 = .ok (.aload_n 0, 1) := by decide +kernel
theorem dd_X12_sea_277 : decode Y_X12_sea.2.1 277 = .ok (.aload_n 0, 1) := by decide +kernel
theorem dd_X12_sea_278 : decode Y_X12_sea.2.1 278 = .ok (.getfield 74, 3) := by decide +kernel
theorem dd_X12_sea_281 : decode Y_X12_sea.2.1 281 = .ok (.aload_n 0, 1) := by decide +kernel
theorem dd_X12_sea_282 : decode Y_X12_sea.2.1 282 = .ok (.getfield 38, 3) := by decide +kernel
theorem dd_X12_sea_285 : decode Y_X12_sea.2.1 285 = .ok (.invokevirtual 325, 3) := by decide +kernel
theorem dd_X12_sea_288 : decode Y_X12_sea.2.1 288 = .ok (.aload_n 0, 1) := by decide +kernel
theorem dd_X12_sea_289 : decode Y_X12_sea.2.1 289 = .ok (.aload_n 0, 1) := by decide +kernel
theorem dd_X12_sea_290 : decode Y_X12_sea.2.1 290 = .ok (.getfield 77, 3) := by decide +kernel
theorem dd_X12_sea_293 : decode Y_X12_sea.2.1 293 = .ok (.aload_n 0, 1) := by decide +kernel
theorem dd_X12_sea_294 : decode Y_X12_sea.2.1 294 = .ok (.getfield 41, 3) := by decide +kernel
theorem dd_X12_sea_297 : decode Y_X12_sea.2.1 297 = .ok (.invokevirtual 325, 3) := by decide +kernel
theorem dd_X12_sea_300 : decode Y_X12_sea.2.1 300 = .ok (.iconst 0, 1) := by decide +kernel
theorem dd_X12_sea_301 : decode Y_X12_sea.2.1 301 = .ok (.istore_n 2, 1) := by decide +kernel
theorem dd_X12_sea_302 : decode Y_X12_sea.2.1 302 = .ok (.iload_n 2, 1) := by decide +kernel
theorem dd_X12_sea_303 : decode Y_X12_sea.2.1 303 = .ok (.bipush 73, 2) := by decide +kernel
theorem dd_X12_sea_305 : decode Y_X12_sea.2.1 305 = .ok (.if_icmp .ge 26, 3) := by decide +kernel
theorem dd_X12_sea_308 : decode Y_X12_sea.2.1 308 = .ok (.aload_n 0, 1) := by decide +kernel
theorem dd_X12_sea_309 : decode Y_X12_sea.2.1 309 = .ok (.getfield 87, 3) := by decide +kernel
theorem dd_X12_sea_312 : decode Y_X12_sea.2.1 312 = .ok (.iload_n 2, 1) := by decide +kernel
theorem dd_X12_sea_313 : decode Y_X12_sea.2.1 313 = .ok (.iload_n 2, 1) := by decide +kernel
theorem dd_X12_sea_314 : decode Y_X12_sea.2.1 314 = .ok (.bipush 8, 2) := by decide +kernel
theorem dd_X12_sea_316 : decode Y_X12_sea.2.1 316 = .ok (.if_icmp .ge 7, 3) := by decide +kernel
theorem dd_X12_sea_319 : decode Y_X12_sea.2.1 319 = .ok (.iload_n 2, 1) := by decide +kernel
theorem dd_X12_sea_320 : decode Y_X12_sea.2.1 320 = .ok (.goto 4, 3) := by decide +kernel
theorem dd_X12_sea_323 : decode Y_X12_sea.2.1 323 = .ok (.iconst 0, 1) := by decide +kernel
theorem dd_X12_sea_324 : decode Y_X12_sea.2.1 324 = .ok (.iastore, 1) := by decide +kernel
theorem dd_X12_sea_325 : decode Y_X12_sea.2.1 325 = .ok (.iinc 2 1, 3) := by decide +kernel
theorem dd_X12_sea_328 : decode Y_X12_sea.2.1 328 = .ok (.goto (-26), 3) := by decide +kernel
theorem dd_X12_sea_331 : decode Y_X12_sea.2.1 331 = .ok (.aload_n 0, 1) := by decide +kernel
theorem dd_X12_sea_332 : decode Y_X12_sea.2.1 332 = .ok (.iconst 0, 1) := by decide +kernel
theorem dd_X12_sea_333 : decode Y_X12_sea.2.1 333 = .ok (.putfield 329, 3) := by decide +kernel
theorem dd_X12_sea_336 : decode Y_X12_sea.2.1 336 = .ok (.aload_n 0, 1) := by decide +kernel
theorem dd_X12_sea_337 : decode Y_X12_sea.2.1 337 = .ok (.iconst 0, 1) := by decide +kernel
theorem dd_X12_sea_338 : decode Y_X12_sea.2.1 338 = .ok (.putfield 332, 3) := by decide +kernel
theorem dd_X12_sea_341 : decode Y_X12_sea.2.1 341 = .ok (.aload_n 0, 1) := by decide +kernel
theorem dd_X12_sea_342 : decode Y_X12_sea.2.1 342 = .ok (.iconst 0, 1) := by decide +kernel
theorem dd_X12_sea_343 : decode Y_X12_sea.2.1 343 = .ok (.putfield 335, 3) := by decide +kernel
theorem dd_X12_sea_346 : decode Y_X12_sea.2.1 346 = .ok (.iconst 0, 1) := by decide +kernel
theorem dd_X12_sea_347 : decode Y_X12_sea.2.1 347 = .ok (.ireturn, 1) := by decide +kernel
def F_X12_sea_L94 (x0 : Nat) (K113 : zM → zO) : Nat → Int32 → zM → zO
  | 0, _, _ => none
  | n + 1, x2, M => zit (8 ≤ x2) (K113 M) (zck (zin x2 8) (zst (zup M (zgr x0 42) (zix x2) 0) (fun M17 => F_X12_sea_L94 x0 K113 n (x2 + 1) M17)))
def F_X12_sea_L117 (x0 : Nat) (K138 : zM → zO) : Nat → zM → zO
  | 0, _ => none
  | n + 1, M => zbI (F_X12_isGood x0 M) (fun r2 M20 => zit (r2 = 0) (K138 M20) (zit ((M20 x0 21) = 0) (K138 M20) (zbV (F_X12_line x0 M20) (fun M21 => F_X12_sea_L117 x0 K138 n M21))))
def F_X12_sea_L302 (x0 : Nat) (K331 : zM → zO) : Nat → Int32 → zM → zO
  | 0, _, _ => none
  | n + 1, x2, M => zit (73 ≤ x2) (K331 M) (zjo (fun (w2 : Int32) (M37 : zM) => zck (zin x2 73) (zst (zup M37 (zgr x0 47) (zix x2) w2) (fun M38 => F_X12_sea_L302 x0 K331 n (x2 + 1) M38))) (fun (k3 : Int32 → zM → zO) => zit (8 ≤ x2) (k3 0 M) (k3 x2 M)))
def F_X12_sea (t : Nat) (a1 : Int32) (M : zM) : zO := zst (zup M t 0 0) (fun M1 => zjo (fun (w1 : Int32) (M3 : zM) => zbI (F_X12_right t w1 1 M3) (fun r1 M4 => zit (r1 = 0) (zI 0 M4) (zst (zup M4 t 15 0) (fun M5 => zst (zup M5 t 17 (-1)) (fun M6 => zst (zup M6 t 16 0) (fun M7 => zst (zup M7 t 19 a1) (fun M8 => zst (zup M8 t 20 0) (fun M9 => zst (zup M9 t 27 0) (fun M10 => zst (zup M10 t 28 0) (fun M11 => zst (zup M11 t 29 3) (fun M12 => zst (zup M12 t 30 (-1)) (fun M13 => zst (zup M13 t 31 0) (fun M14 => zst (zup M14 t 32 0) (fun M15 => zst (zup M15 t 33 0) (fun M16 => F_X12_sea_L94 t (fun  (M18 : zM) => zbV (F_X12_goes t M18) (fun M19 => F_X12_sea_L117 t (fun  (M22 : zM) => zbI (F_X12_isGood t M22) (fun r3 M23 => zit (r3 = 0) (zck (zin 0 3) (zck (zin 0 3) (zst (zup M23 (zgr t 18) (zix 0) ((M23 (zgr t 18) (zix 0)) + 1)) (fun M43 => zI (M43 t 16) M43)))) (zst (zup M23 t 1 (M23 t 27)) (fun M24 => zst (zup M24 t 2 (M24 t 28)) (fun M25 => zst (zup M25 t 3 (M25 t 29)) (fun M26 => zst (zup M26 t 4 (M26 t 30)) (fun M27 => zbV (F_X12_copies t (zgr t 36) (zgr t 5) M27) (fun M28 => zbV (F_X12_copies t (zgr t 37) (zgr t 6) M28) (fun M29 => zbV (F_X12_copies t (zgr t 38) (zgr t 7) M29) (fun M30 => zbV (F_X12_copies t (zgr t 39) (zgr t 8) M30) (fun M31 => zbV (F_X12_copies t (zgr t 40) (zgr t 9) M31) (fun M32 => zbV (F_X12_copies t (zgr t 41) (zgr t 10) M32) (fun M33 => zbV (F_X12_copies t (zgr t 42) (zgr t 11) M33) (fun M34 => zbV (F_X12_copies t (zgr t 43) (zgr t 12) M34) (fun M35 => zbV (F_X12_copies t (zgr t 44) (zgr t 13) M35) (fun M36 => F_X12_sea_L302 t (fun  (M39 : zM) => zst (zup M39 t 50 0) (fun M40 => zst (zup M40 t 64 0) (fun M41 => zck (zbo 0) (zst (zup M41 t 73 0) (fun M42 => zI 0 M42))))) zN 0 M36)))))))))))))))) zN M19)) zN 0 M16))))))))))))))) (fun (k1 : Int32 → zM → zO) => zjo (fun  (M2 : zM) => k1 0 M2) (fun (k2 : zM → zO) => zit (a1 < 0) (k2 M1) (zit ((M1 t 15) < a1) (k2 M1) (k1 1 M1)))))
set_option maxHeartbeats 1000000 in
set_option maxRecDepth 20000 in
theorem ct_X12_sea_L94 (l : Launch) (hl : l.stackTraces = false) (G : zG) (x0 : Nat) (hx0 : zsh x0 = 12) (K113 : zM → zO) (hK113 : ∀  (M : zM), zEv l G Y_X12_sea 8 0 113 [(0, .ref (G.2.1 + x0))] [] M (K113 M)) : ∀ (n : Nat) (x2 : Int32) (M : zM), zEv l G Y_X12_sea 8 0 94 [(0, .ref (G.2.1 + x0)), (2, .int x2)] [] M (F_X12_sea_L94 x0 K113 n x2 M) := by
  intro n
  induction n with
  | zero => intro x2 M; exact ev_none
  | succ n ih =>
    intro x2 M
    show zEv l G Y_X12_sea 8 0 94 [(0, .ref (G.2.1 + x0)), (2, .int x2)] [] M (zit (8 ≤ x2) (K113 M) (zck (zin x2 8) (zst (zup M (zgr x0 42) (zix x2) 0) (fun M17 => F_X12_sea_L94 x0 K113 n (x2 + 1) M17))))
    refine ev_iload_n dd_X12_sea_94 1 rfl ?_
    refine ev_bipush (v := 8) dd_X12_sea_95 (by decide) ?_
    refine ev_icmp_ge 113 dd_X12_sea_97 (by decide) ?_ ?_
    · refine ev_lv (lv' := [(0, .ref (G.2.1 + x0))]) [0] rfl ?_
      exact hK113 _
    · refine ev_aload_n dd_X12_sea_100 0 rfl ?_
      refine ev_getR gf_RX12_71 dd_X12_sea_101 hx0 (by decide) ?_
      refine ev_iload_n dd_X12_sea_104 1 rfl ?_
      refine ev_iconst (v := 0) dd_X12_sea_105 (by decide) ?_
      refine ev_iast dd_X12_sea_106 ((zg_12_42 hx0).1) ((zg_12_42 hx0).2) ?_
      refine ev_st (fun M17 => ?_)
      refine ev_iinc (j := 1) (v := 1) (lv' := [(0, .ref (G.2.1 + x0)), (2, .int (x2 + 1))]) [1, 0] dd_X12_sea_107 rfl (by decide) (by decide) rfl ?_
      refine ev_goto 94 dd_X12_sea_110 (by decide) ?_
      exact ih _ _
set_option maxHeartbeats 1000000 in
set_option maxRecDepth 20000 in
theorem ct_X12_sea_L117 (l : Launch) (hl : l.stackTraces = false) (G : zG) (x0 : Nat) (hx0 : zsh x0 = 12) (K138 : zM → zO) (hK138 : ∀  (M : zM), zEv l G Y_X12_sea 8 0 138 [(0, .ref (G.2.1 + x0))] [] M (K138 M)) : ∀ (n : Nat)  (M : zM), zEv l G Y_X12_sea 8 0 117 [(0, .ref (G.2.1 + x0))] [] M (F_X12_sea_L117 x0 K138 n M) := by
  intro n
  induction n with
  | zero => intro M; exact ev_none
  | succ n ih =>
    intro M
    show zEv l G Y_X12_sea 8 0 117 [(0, .ref (G.2.1 + x0))] [] M (zbI (F_X12_isGood x0 M) (fun r2 M20 => zit (r2 = 0) (K138 M20) (zit ((M20 x0 21) = 0) (K138 M20) (zbV (F_X12_line x0 M20) (fun M21 => F_X12_sea_L117 x0 K138 n M21)))))
    refine ev_aload_n dd_X12_sea_117 0 rfl ?_
    refine ev_callVI (As := []) cl_RX12_212 (ct_X12_isGood l hl G x0 hx0 M) dd_X12_sea_118 hx0 (by decide) (Nat.le_of_ble_eq_true rfl) (Nat.le_of_ble_eq_true rfl) rfl rfl (fun r2 M20 => ?_)
    refine ev_if_eq 138 dd_X12_sea_121 (by decide) ?_ ?_
    · exact hK138 _
    · refine ev_aload_n dd_X12_sea_124 0 rfl ?_
      refine ev_getI gf_RX12_186 dd_X12_sea_125 hx0 (by decide) ?_
      refine ev_if_eq 138 dd_X12_sea_128 (by decide) ?_ ?_
      · exact hK138 _
      · refine ev_aload_n dd_X12_sea_131 0 rfl ?_
        refine ev_callVV (As := []) cl_RX12_316 (ct_X12_line l hl G x0 hx0 M20) dd_X12_sea_132 hx0 (by decide) (Nat.le_of_ble_eq_true rfl) (Nat.le_of_ble_eq_true rfl) rfl rfl (fun M21 => ?_)
        refine ev_goto 117 dd_X12_sea_135 (by decide) ?_
        exact ih _
set_option maxHeartbeats 1000000 in
set_option maxRecDepth 20000 in
theorem ct_X12_sea_L302 (l : Launch) (hl : l.stackTraces = false) (G : zG) (x0 : Nat) (hx0 : zsh x0 = 12) (K331 : zM → zO) (hK331 : ∀  (M : zM), zEv l G Y_X12_sea 8 0 331 [(0, .ref (G.2.1 + x0))] [] M (K331 M)) : ∀ (n : Nat) (x2 : Int32) (M : zM), zEv l G Y_X12_sea 8 0 302 [(0, .ref (G.2.1 + x0)), (2, .int x2)] [] M (F_X12_sea_L302 x0 K331 n x2 M) := by
  intro n
  induction n with
  | zero => intro x2 M; exact ev_none
  | succ n ih =>
    intro x2 M
    show zEv l G Y_X12_sea 8 0 302 [(0, .ref (G.2.1 + x0)), (2, .int x2)] [] M (zit (73 ≤ x2) (K331 M) (zjo (fun (w2 : Int32) (M37 : zM) => zck (zin x2 73) (zst (zup M37 (zgr x0 47) (zix x2) w2) (fun M38 => F_X12_sea_L302 x0 K331 n (x2 + 1) M38))) (fun (k3 : Int32 → zM → zO) => zit (8 ≤ x2) (k3 0 M) (k3 x2 M))))
    refine ev_iload_n dd_X12_sea_302 1 rfl ?_
    refine ev_bipush (v := 73) dd_X12_sea_303 (by decide) ?_
    refine ev_icmp_ge 331 dd_X12_sea_305 (by decide) ?_ ?_
    · refine ev_lv (lv' := [(0, .ref (G.2.1 + x0))]) [0] rfl ?_
      exact hK331 _
    · refine ev_aload_n dd_X12_sea_308 0 rfl ?_
      refine ev_getR gf_RX12_87 dd_X12_sea_309 hx0 (by decide) ?_
      refine ev_iload_n dd_X12_sea_312 1 rfl ?_
      refine ev_iload_n dd_X12_sea_313 1 rfl ?_
      refine ev_bipush (v := 8) dd_X12_sea_314 (by decide) ?_
      refine ev_jo (fun (k3 : Int32 → zM → zO) => ∀ (w2 : Int32) (M37 : zM), zEv l G Y_X12_sea 8 0 324 [(0, .ref (G.2.1 + x0)), (2, .int x2)] [.int w2, .int x2, .ref (G.2.1 + (zgr x0 47))] M37 (k3 w2 M37)) ?_ (fun k3 hk3 => ?_)
      · intro w2 M37
        refine ev_iast dd_X12_sea_324 ((zg_12_47 hx0).1) ((zg_12_47 hx0).2) ?_
        refine ev_st (fun M38 => ?_)
        refine ev_iinc (j := 1) (v := 1) (lv' := [(0, .ref (G.2.1 + x0)), (2, .int (x2 + 1))]) [1, 0] dd_X12_sea_325 rfl (by decide) (by decide) rfl ?_
        refine ev_goto 302 dd_X12_sea_328 (by decide) ?_
        exact ih _ _
      · refine ev_icmp_ge 323 dd_X12_sea_316 (by decide) ?_ ?_
        · refine ev_iconst (v := 0) dd_X12_sea_323 (by decide) ?_
          exact hk3 _ _
        · refine ev_iload_n dd_X12_sea_319 1 rfl ?_
          refine ev_goto 324 dd_X12_sea_320 (by decide) ?_
          exact hk3 _ _
set_option maxHeartbeats 1000000 in
set_option maxRecDepth 20000 in
theorem ct_X12_sea (l : Launch) (hl : l.stackTraces = false) (G : zG) (t : Nat) (ht : zsh t = 12) (a1 : Int32) (M : zM) : zMt l G Y_X12_sea 8 [.ref (G.2.1 + t), .int a1] M (F_X12_sea t a1 M) := by
  refine zMt_of (by decide +kernel) (Nat.le_of_ble_eq_true rfl) ?_
  show zEv l G Y_X12_sea 8 0 0 [(0, .ref (G.2.1 + t)), (1, .int a1)] [] M (zst (zup M t 0 0) (fun M1 => zjo (fun (w1 : Int32) (M3 : zM) => zbI (F_X12_right t w1 1 M3) (fun r1 M4 => zit (r1 = 0) (zI 0 M4) (zst (zup M4 t 15 0) (fun M5 => zst (zup M5 t 17 (-1)) (fun M6 => zst (zup M6 t 16 0) (fun M7 => zst (zup M7 t 19 a1) (fun M8 => zst (zup M8 t 20 0) (fun M9 => zst (zup M9 t 27 0) (fun M10 => zst (zup M10 t 28 0) (fun M11 => zst (zup M11 t 29 3) (fun M12 => zst (zup M12 t 30 (-1)) (fun M13 => zst (zup M13 t 31 0) (fun M14 => zst (zup M14 t 32 0) (fun M15 => zst (zup M15 t 33 0) (fun M16 => F_X12_sea_L94 t (fun  (M18 : zM) => zbV (F_X12_goes t M18) (fun M19 => F_X12_sea_L117 t (fun  (M22 : zM) => zbI (F_X12_isGood t M22) (fun r3 M23 => zit (r3 = 0) (zck (zin 0 3) (zck (zin 0 3) (zst (zup M23 (zgr t 18) (zix 0) ((M23 (zgr t 18) (zix 0)) + 1)) (fun M43 => zI (M43 t 16) M43)))) (zst (zup M23 t 1 (M23 t 27)) (fun M24 => zst (zup M24 t 2 (M24 t 28)) (fun M25 => zst (zup M25 t 3 (M25 t 29)) (fun M26 => zst (zup M26 t 4 (M26 t 30)) (fun M27 => zbV (F_X12_copies t (zgr t 36) (zgr t 5) M27) (fun M28 => zbV (F_X12_copies t (zgr t 37) (zgr t 6) M28) (fun M29 => zbV (F_X12_copies t (zgr t 38) (zgr t 7) M29) (fun M30 => zbV (F_X12_copies t (zgr t 39) (zgr t 8) M30) (fun M31 => zbV (F_X12_copies t (zgr t 40) (zgr t 9) M31) (fun M32 => zbV (F_X12_copies t (zgr t 41) (zgr t 10) M32) (fun M33 => zbV (F_X12_copies t (zgr t 42) (zgr t 11) M33) (fun M34 => zbV (F_X12_copies t (zgr t 43) (zgr t 12) M34) (fun M35 => zbV (F_X12_copies t (zgr t 44) (zgr t 13) M35) (fun M36 => F_X12_sea_L302 t (fun  (M39 : zM) => zst (zup M39 t 50 0) (fun M40 => zst (zup M40 t 64 0) (fun M41 => zck (zbo 0) (zst (zup M41 t 73 0) (fun M42 => zI 0 M42))))) zN 0 M36)))))))))))))))) zN M19)) zN 0 M16))))))))))))))) (fun (k1 : Int32 → zM → zO) => zjo (fun  (M2 : zM) => k1 0 M2) (fun (k2 : zM → zO) => zit (a1 < 0) (k2 M1) (zit ((M1 t 15) < a1) (k2 M1) (k1 1 M1))))))
  refine ev_aload_n dd_X12_sea_0 0 rfl ?_
  refine ev_iconst (v := 0) dd_X12_sea_1 (by decide) ?_
  refine ev_putI gw_RX12_153 dd_X12_sea_2 ht (by decide) ?_
  refine ev_st (fun M1 => ?_)
  refine ev_aload_n dd_X12_sea_5 0 rfl ?_
  refine ev_iload_n dd_X12_sea_6 1 rfl ?_
  refine ev_jo (fun (k1 : Int32 → zM → zO) => ∀ (w1 : Int32) (M3 : zM), zEv l G Y_X12_sea 8 0 23 [(0, .ref (G.2.1 + t)), (1, .int a1)] [.int w1, .ref (G.2.1 + t)] M3 (k1 w1 M3)) ?_ (fun k1 hk1 => ?_)
  · intro w1 M3
    refine ev_iconst (v := 1) dd_X12_sea_23 (by decide) ?_
    refine ev_callVI (As := [.int w1, .int 1]) cl_RX12_312 (ct_X12_right l hl G t ht w1 1 M3) dd_X12_sea_24 ht (by decide) (Nat.le_of_ble_eq_true rfl) (Nat.le_of_ble_eq_true rfl) rfl rfl (fun r1 M4 => ?_)
    refine ev_if_ne 32 dd_X12_sea_27 (by decide) ?_ ?_
    · refine ev_aload_n dd_X12_sea_32 0 rfl ?_
      refine ev_iconst (v := 0) dd_X12_sea_33 (by decide) ?_
      refine ev_putI gw_RX12_156 dd_X12_sea_34 ht (by decide) ?_
      refine ev_st (fun M5 => ?_)
      refine ev_aload_n dd_X12_sea_37 0 rfl ?_
      refine ev_iconst (v := (-1)) dd_X12_sea_38 (by decide) ?_
      refine ev_putI gw_RX12_47 dd_X12_sea_39 ht (by decide) ?_
      refine ev_st (fun M6 => ?_)
      refine ev_aload_n dd_X12_sea_42 0 rfl ?_
      refine ev_iconst (v := 0) dd_X12_sea_43 (by decide) ?_
      refine ev_putI gw_RX12_209 dd_X12_sea_44 ht (by decide) ?_
      refine ev_st (fun M7 => ?_)
      refine ev_aload_n dd_X12_sea_47 0 rfl ?_
      refine ev_iload_n dd_X12_sea_48 1 rfl ?_
      refine ev_lv (lv' := [(0, .ref (G.2.1 + t))]) [0] rfl ?_
      refine ev_putI gw_RX12_163 dd_X12_sea_49 ht (by decide) ?_
      refine ev_st (fun M8 => ?_)
      refine ev_aload_n dd_X12_sea_52 0 rfl ?_
      refine ev_iconst (v := 0) dd_X12_sea_53 (by decide) ?_
      refine ev_putI gw_RX12_166 dd_X12_sea_54 ht (by decide) ?_
      refine ev_st (fun M9 => ?_)
      refine ev_aload_n dd_X12_sea_57 0 rfl ?_
      refine ev_iconst (v := 0) dd_X12_sea_58 (by decide) ?_
      refine ev_putI gw_RX12_222 dd_X12_sea_59 ht (by decide) ?_
      refine ev_st (fun M10 => ?_)
      refine ev_aload_n dd_X12_sea_62 0 rfl ?_
      refine ev_iconst (v := 0) dd_X12_sea_63 (by decide) ?_
      refine ev_putI gw_RX12_285 dd_X12_sea_64 ht (by decide) ?_
      refine ev_st (fun M11 => ?_)
      refine ev_aload_n dd_X12_sea_67 0 rfl ?_
      refine ev_iconst (v := 3) dd_X12_sea_68 (by decide) ?_
      refine ev_putI gw_RX12_300 dd_X12_sea_69 ht (by decide) ?_
      refine ev_st (fun M12 => ?_)
      refine ev_aload_n dd_X12_sea_72 0 rfl ?_
      refine ev_iconst (v := (-1)) dd_X12_sea_73 (by decide) ?_
      refine ev_putI gw_RX12_303 dd_X12_sea_74 ht (by decide) ?_
      refine ev_st (fun M13 => ?_)
      refine ev_aload_n dd_X12_sea_77 0 rfl ?_
      refine ev_iconst (v := 0) dd_X12_sea_78 (by decide) ?_
      refine ev_putI gw_RX12_297 dd_X12_sea_79 ht (by decide) ?_
      refine ev_st (fun M14 => ?_)
      refine ev_aload_n dd_X12_sea_82 0 rfl ?_
      refine ev_iconst (v := 0) dd_X12_sea_83 (by decide) ?_
      refine ev_putI gw_RX12_282 dd_X12_sea_84 ht (by decide) ?_
      refine ev_st (fun M15 => ?_)
      refine ev_aload_n dd_X12_sea_87 0 rfl ?_
      refine ev_iconst (v := 0) dd_X12_sea_88 (by decide) ?_
      refine ev_putI gw_RX12_225 dd_X12_sea_89 ht (by decide) ?_
      refine ev_st (fun M16 => ?_)
      refine ev_iconst (v := 0) dd_X12_sea_92 (by decide) ?_
      refine ev_istore_n (i := 2) (lv' := [(0, .ref (G.2.1 + t)), (2, .int 0)]) [1, 0] dd_X12_sea_93 rfl (by decide) rfl ?_
      refine ct_X12_sea_L94 l hl G t ht _ (fun M18 => ?_) zN _ _
      refine ev_aload_n dd_X12_sea_113 0 rfl ?_
      refine ev_callVV (As := []) cl_RX12_216 (ct_X12_goes l hl G t ht M18) dd_X12_sea_114 ht (by decide) (Nat.le_of_ble_eq_true rfl) (Nat.le_of_ble_eq_true rfl) rfl rfl (fun M19 => ?_)
      refine ct_X12_sea_L117 l hl G t ht _ (fun M22 => ?_) zN _
      refine ev_aload_n dd_X12_sea_138 0 rfl ?_
      refine ev_callVI (As := []) cl_RX12_212 (ct_X12_isGood l hl G t ht M22) dd_X12_sea_139 ht (by decide) (Nat.le_of_ble_eq_true rfl) (Nat.le_of_ble_eq_true rfl) rfl rfl (fun r3 M23 => ?_)
      refine ev_if_ne 160 dd_X12_sea_142 (by decide) ?_ ?_
      · refine ev_aload_n dd_X12_sea_160 0 rfl ?_
        refine ev_aload_n dd_X12_sea_161 0 rfl ?_
        refine ev_getI gf_RX12_222 dd_X12_sea_162 ht (by decide) ?_
        refine ev_putI gw_RX12_319 dd_X12_sea_165 ht (by decide) ?_
        refine ev_st (fun M24 => ?_)
        refine ev_aload_n dd_X12_sea_168 0 rfl ?_
        refine ev_aload_n dd_X12_sea_169 0 rfl ?_
        refine ev_getI gf_RX12_285 dd_X12_sea_170 ht (by decide) ?_
        refine ev_putI gw_RX12_322 dd_X12_sea_173 ht (by decide) ?_
        refine ev_st (fun M25 => ?_)
        refine ev_aload_n dd_X12_sea_176 0 rfl ?_
        refine ev_aload_n dd_X12_sea_177 0 rfl ?_
        refine ev_getI gf_RX12_300 dd_X12_sea_178 ht (by decide) ?_
        refine ev_putI gw_RX12_7 dd_X12_sea_181 ht (by decide) ?_
        refine ev_st (fun M26 => ?_)
        refine ev_aload_n dd_X12_sea_184 0 rfl ?_
        refine ev_aload_n dd_X12_sea_185 0 rfl ?_
        refine ev_getI gf_RX12_303 dd_X12_sea_186 ht (by decide) ?_
        refine ev_putI gw_RX12_13 dd_X12_sea_189 ht (by decide) ?_
        refine ev_st (fun M27 => ?_)
        refine ev_aload_n dd_X12_sea_192 0 rfl ?_
        refine ev_aload_n dd_X12_sea_193 0 rfl ?_
        refine ev_getR gf_RX12_53 dd_X12_sea_194 ht (by decide) ?_
        refine ev_aload_n dd_X12_sea_197 0 rfl ?_
        refine ev_getR gf_RX12_16 dd_X12_sea_198 ht (by decide) ?_
        refine ev_callVV (As := [.ref (G.2.1 + (zgr t 36)), .ref (G.2.1 + (zgr t 5))]) cl_RX12_325 (ct_X12_copies l hl G t ht (zgr t 36) ((zg_12_36 ht).1) (zgr t 5) ((zg_12_5 ht).1) M27) dd_X12_sea_201 ht (by decide) (Nat.le_of_ble_eq_true rfl) (Nat.le_of_ble_eq_true rfl) rfl rfl (fun M28 => ?_)
        refine ev_aload_n dd_X12_sea_204 0 rfl ?_
        refine ev_aload_n dd_X12_sea_205 0 rfl ?_
        refine ev_getR gf_RX12_56 dd_X12_sea_206 ht (by decide) ?_
        refine ev_aload_n dd_X12_sea_209 0 rfl ?_
        refine ev_getR gf_RX12_20 dd_X12_sea_210 ht (by decide) ?_
        refine ev_callVV (As := [.ref (G.2.1 + (zgr t 37)), .ref (G.2.1 + (zgr t 6))]) cl_RX12_325 (ct_X12_copies l hl G t ht (zgr t 37) ((zg_12_37 ht).1) (zgr t 6) ((zg_12_6 ht).1) M28) dd_X12_sea_213 ht (by decide) (Nat.le_of_ble_eq_true rfl) (Nat.le_of_ble_eq_true rfl) rfl rfl (fun M29 => ?_)
        refine ev_aload_n dd_X12_sea_216 0 rfl ?_
        refine ev_aload_n dd_X12_sea_217 0 rfl ?_
        refine ev_getR gf_RX12_59 dd_X12_sea_218 ht (by decide) ?_
        refine ev_aload_n dd_X12_sea_221 0 rfl ?_
        refine ev_getR gf_RX12_23 dd_X12_sea_222 ht (by decide) ?_
        refine ev_callVV (As := [.ref (G.2.1 + (zgr t 38)), .ref (G.2.1 + (zgr t 7))]) cl_RX12_325 (ct_X12_copies l hl G t ht (zgr t 38) ((zg_12_38 ht).1) (zgr t 7) ((zg_12_7 ht).1) M29) dd_X12_sea_225 ht (by decide) (Nat.le_of_ble_eq_true rfl) (Nat.le_of_ble_eq_true rfl) rfl rfl (fun M30 => ?_)
        refine ev_aload_n dd_X12_sea_228 0 rfl ?_
        refine ev_aload_n dd_X12_sea_229 0 rfl ?_
        refine ev_getR gf_RX12_62 dd_X12_sea_230 ht (by decide) ?_
        refine ev_aload_n dd_X12_sea_233 0 rfl ?_
        refine ev_getR gf_RX12_26 dd_X12_sea_234 ht (by decide) ?_
        refine ev_callVV (As := [.ref (G.2.1 + (zgr t 39)), .ref (G.2.1 + (zgr t 8))]) cl_RX12_325 (ct_X12_copies l hl G t ht (zgr t 39) ((zg_12_39 ht).1) (zgr t 8) ((zg_12_8 ht).1) M30) dd_X12_sea_237 ht (by decide) (Nat.le_of_ble_eq_true rfl) (Nat.le_of_ble_eq_true rfl) rfl rfl (fun M31 => ?_)
        refine ev_aload_n dd_X12_sea_240 0 rfl ?_
        refine ev_aload_n dd_X12_sea_241 0 rfl ?_
        refine ev_getR gf_RX12_65 dd_X12_sea_242 ht (by decide) ?_
        refine ev_aload_n dd_X12_sea_245 0 rfl ?_
        refine ev_getR gf_RX12_29 dd_X12_sea_246 ht (by decide) ?_
        refine ev_callVV (As := [.ref (G.2.1 + (zgr t 40)), .ref (G.2.1 + (zgr t 9))]) cl_RX12_325 (ct_X12_copies l hl G t ht (zgr t 40) ((zg_12_40 ht).1) (zgr t 9) ((zg_12_9 ht).1) M31) dd_X12_sea_249 ht (by decide) (Nat.le_of_ble_eq_true rfl) (Nat.le_of_ble_eq_true rfl) rfl rfl (fun M32 => ?_)
        refine ev_aload_n dd_X12_sea_252 0 rfl ?_
        refine ev_aload_n dd_X12_sea_253 0 rfl ?_
        refine ev_getR gf_RX12_68 dd_X12_sea_254 ht (by decide) ?_
        refine ev_aload_n dd_X12_sea_257 0 rfl ?_
        refine ev_getR gf_RX12_32 dd_X12_sea_258 ht (by decide) ?_
        refine ev_callVV (As := [.ref (G.2.1 + (zgr t 41)), .ref (G.2.1 + (zgr t 10))]) cl_RX12_325 (ct_X12_copies l hl G t ht (zgr t 41) ((zg_12_41 ht).1) (zgr t 10) ((zg_12_10 ht).1) M32) dd_X12_sea_261 ht (by decide) (Nat.le_of_ble_eq_true rfl) (Nat.le_of_ble_eq_true rfl) rfl rfl (fun M33 => ?_)
        refine ev_aload_n dd_X12_sea_264 0 rfl ?_
        refine ev_aload_n dd_X12_sea_265 0 rfl ?_
        refine ev_getR gf_RX12_71 dd_X12_sea_266 ht (by decide) ?_
        refine ev_aload_n dd_X12_sea_269 0 rfl ?_
        refine ev_getR gf_RX12_35 dd_X12_sea_270 ht (by decide) ?_
        refine ev_callVV (As := [.ref (G.2.1 + (zgr t 42)), .ref (G.2.1 + (zgr t 11))]) cl_RX12_325 (ct_X12_copies l hl G t ht (zgr t 42) ((zg_12_42 ht).1) (zgr t 11) ((zg_12_11 ht).1) M33) dd_X12_sea_273 ht (by decide) (Nat.le_of_ble_eq_true rfl) (Nat.le_of_ble_eq_true rfl) rfl rfl (fun M34 => ?_)
        refine ev_aload_n dd_X12_sea_276 0 rfl ?_
        refine ev_aload_n dd_X12_sea_277 0 rfl ?_
        refine ev_getR gf_RX12_74 dd_X12_sea_278 ht (by decide) ?_
        refine ev_aload_n dd_X12_sea_281 0 rfl ?_
        refine ev_getR gf_RX12_38 dd_X12_sea_282 ht (by decide) ?_
        refine ev_callVV (As := [.ref (G.2.1 + (zgr t 43)), .ref (G.2.1 + (zgr t 12))]) cl_RX12_325 (ct_X12_copies l hl G t ht (zgr t 43) ((zg_12_43 ht).1) (zgr t 12) ((zg_12_12 ht).1) M34) dd_X12_sea_285 ht (by decide) (Nat.le_of_ble_eq_true rfl) (Nat.le_of_ble_eq_true rfl) rfl rfl (fun M35 => ?_)
        refine ev_aload_n dd_X12_sea_288 0 rfl ?_
        refine ev_aload_n dd_X12_sea_289 0 rfl ?_
        refine ev_getR gf_RX12_77 dd_X12_sea_290 ht (by decide) ?_
        refine ev_aload_n dd_X12_sea_293 0 rfl ?_
        refine ev_getR gf_RX12_41 dd_X12_sea_294 ht (by decide) ?_
        refine ev_callVV (As := [.ref (G.2.1 + (zgr t 44)), .ref (G.2.1 + (zgr t 13))]) cl_RX12_325 (ct_X12_copies l hl G t ht (zgr t 44) ((zg_12_44 ht).1) (zgr t 13) ((zg_12_13 ht).1) M35) dd_X12_sea_297 ht (by decide) (Nat.le_of_ble_eq_true rfl) (Nat.le_of_ble_eq_true rfl) rfl rfl (fun M36 => ?_)
        refine ev_iconst (v := 0) dd_X12_sea_300 (by decide) ?_
        refine ev_istore_n (i := 2) (lv' := [(0, .ref (G.2.1 + t)), (2, .int 0)]) [1, 0] dd_X12_sea_301 rfl (by decide) rfl ?_
        refine ct_X12_sea_L302 l hl G t ht _ (fun M39 => ?_) zN _ _
        refine ev_aload_n dd_X12_sea_331 0 rfl ?_
        refine ev_iconst (v := 0) dd_X12_sea_332 (by decide) ?_
        refine ev_putI gw_RX12_329 dd_X12_sea_333 ht (by decide) ?_
        refine ev_st (fun M40 => ?_)
        refine ev_aload_n dd_X12_sea_336 0 rfl ?_
        refine ev_iconst (v := 0) dd_X12_sea_337 (by decide) ?_
        refine ev_putI gw_RX12_332 dd_X12_sea_338 ht (by decide) ?_
        refine ev_st (fun M41 => ?_)
        refine ev_aload_n dd_X12_sea_341 0 rfl ?_
        refine ev_lv (lv' := []) [] rfl ?_
        refine ev_iconst (v := 0) dd_X12_sea_342 (by decide) ?_
        refine ev_putZ gw_RX12_335 dd_X12_sea_343 ht (by decide) ?_
        refine ev_st (fun M42 => ?_)
        refine ev_iconst (v := 0) dd_X12_sea_346 (by decide) ?_
        exact ev_iret dd_X12_sea_347 rfl (Nat.le_of_ble_eq_true rfl) rfl
      · refine ev_aload_n dd_X12_sea_145 0 rfl ?_
        refine ev_getR gf_RX12_50 dd_X12_sea_146 ht (by decide) ?_
        refine ev_iconst (v := 0) dd_X12_sea_149 (by decide) ?_
        refine ev_dup2 dd_X12_sea_150 rfl rfl ?_
        refine ev_iald dd_X12_sea_151 ((zg_12_18 ht).1) ((zg_12_18 ht).2) ?_
        refine ev_iconst (v := 1) dd_X12_sea_152 (by decide) ?_
        refine ev_iadd dd_X12_sea_153 ?_
        refine ev_iast dd_X12_sea_154 ((zg_12_18 ht).1) ((zg_12_18 ht).2) ?_
        refine ev_st (fun M43 => ?_)
        refine ev_aload_n dd_X12_sea_155 0 rfl ?_
        refine ev_lv (lv' := []) [] rfl ?_
        refine ev_getI gf_RX12_209 dd_X12_sea_156 ht (by decide) ?_
        exact ev_iret dd_X12_sea_159 rfl (Nat.le_of_ble_eq_true rfl) rfl
    · refine ev_lv (lv' := []) [] rfl ?_
      refine ev_iconst (v := 0) dd_X12_sea_30 (by decide) ?_
      exact ev_iret dd_X12_sea_31 rfl (Nat.le_of_ble_eq_true rfl) rfl
  · refine ev_jo (fun (k2 : zM → zO) => ∀  (M2 : zM), zEv l G Y_X12_sea 8 0 22 [(0, .ref (G.2.1 + t)), (1, .int a1)] [.ref (G.2.1 + t)] M2 (k2 M2)) ?_ (fun k2 hk2 => ?_)
    · intro M2
      refine ev_iconst (v := 0) dd_X12_sea_22 (by decide) ?_
      exact hk1 _ _
    · refine ev_if_lt 22 dd_X12_sea_7 (by decide) ?_ ?_
      · exact hk2 _
      · refine ev_iload_n dd_X12_sea_10 1 rfl ?_
        refine ev_aload_n dd_X12_sea_11 0 rfl ?_
        refine ev_getI gf_RX12_156 dd_X12_sea_12 ht (by decide) ?_
        refine ev_icmp_gt 22 dd_X12_sea_15 (by decide) ?_ ?_
        · exact hk2 _
        · refine ev_iconst (v := 1) dd_X12_sea_18 (by decide) ?_
          refine ev_goto 23 dd_X12_sea_19 (by decide) ?_
          exact hk1 _ _
/-! X12_see -/
theorem dd_X12_see_0 : decode Y_X12_see.2.1 0 = .ok (.aload_n 0, 1) := by decide +kernel
theorem dd_X12_see_1 : decode Y_X12_see.2.1 1 = .ok (.iconst 0, 1) := by decide +kernel
theorem dd_X12_see_2 : decode Y_X12_see.2.1 2 = .ok (.putfield 153, 3) := by decide +kernel
theorem dd_X12_see_5 : decode Y_X12_see.2.1 5 = .ok (.aload_n 0, 1) := by decide +kernel
theorem dd_X12_see_6 : decode Y_X12_see.2.1 6 = .ok (.iload_n 1, 1) := by decide +kernel
theorem dd_X12_see_7 : decode Y_X12_see.2.1 7 = .ok (.invokevirtual 346, 3) := by decide +kernel
theorem dd_X12_see_10 : decode Y_X12_see.2.1 10 = .ok (.ifCond .eq 11, 3) := by decide +kernel
theorem dd_X12_see_13 : decode Y_X12_see.2.1 13 = .ok (.aload_n 0, 1) := by decide +kernel
theorem dd_X12_see_14 : decode Y_X12_see.2.1 14 = .ok (.iload_n 2, 1) := by decide +kernel
theorem dd_X12_see_15 : decode Y_X12_see.2.1 15 = .ok (.invokevirtual 346, 3) := by decide +kernel
theorem dd_X12_see_18 : decode Y_X12_see.2.1 18 = .ok (.ifCond .ne 5, 3) := by decide +kernel
theorem dd_X12_see_21 : decode Y_X12_see.2.1 21 = .ok (.iconst 0, 1) := by decide +kernel
theorem dd_X12_see_22 : decode Y_X12_see.2.1 22 = .ok (.ireturn, 1) := by decide +kernel
theorem dd_X12_see_23 : decode Y_X12_see.2.1 23 = .ok (.aload_n 0, 1) := by decide +kernel
theorem dd_X12_see_24 : decode Y_X12_see.2.1 24 = .ok (.getfield 332, 3) := by decide +kernel
theorem dd_X12_see_27 : decode Y_X12_see.2.1 27 = .ok (.bipush 8, 2) := by decide +kernel
theorem dd_X12_see_29 : decode Y_X12_see.2.1 29 = .ok (.if_icmp .ne 10, 3) := by decide +kernel
theorem dd_X12_see_32 : decode Y_X12_see.2.1 32 = .ok (.aload_n 0, 1) := by decide +kernel
theorem dd_X12_see_33 : decode Y_X12_see.2.1 33 = .ok (.iconst 2, 1) := by decide +kernel
theorem dd_X12_see_34 : decode Y_X12_see.2.1 34 = .ok (.iconst (-1), 1) := by decide +kernel
theorem dd_X12_see_35 : decode Y_X12_see.2.1 35 = .ok (.invokevirtual 387, 3) := by decide +kernel
theorem dd_X12_see_38 : decode Y_X12_see.2.1 38 = .ok (.ireturn, 1) := by decide +kernel
theorem dd_X12_see_39 : decode Y_X12_see.2.1 39 = .ok (.aload_n 0, 1) := by decide +kernel
theorem dd_X12_see_40 : decode Y_X12_see.2.1 40 = .ok (.getfield 129, 3) := by decide +kernel
theorem dd_X12_see_43 : decode Y_X12_see.2.1 43 = .ok (.iconst 2, 1) := by decide +kernel
theorem dd_X12_see_44 : decode Y_X12_see.2.1 44 = .ok (.aload_n 0, 1) := by decide +kernel
theorem dd_X12_see_45 : decode Y_X12_see.2.1 45 = .ok (.getfield 332, 3) := by decide +kernel
theorem dd_X12_see_48 : decode Y_X12_see.2.1 48 = .ok (.imul, 1) := by decide +kernel
theorem dd_X12_see_49 : decode Y_X12_see.2.1 49 = .ok (.iload_n 1, 1) := by decide +kernel
theorem dd_X12_see_50 : decode Y_X12_see.2.1 50 = .ok (.iastore, 1) := by decide +kernel
theorem dd_X12_see_51 : decode Y_X12_see.2.1 51 = .ok (.aload_n 0, 1) := by decide +kernel
theorem dd_X12_see_52 : decode Y_X12_see.2.1 52 = .ok (.getfield 129, 3) := by decide +kernel
theorem dd_X12_see_55 : decode Y_X12_see.2.1 55 = .ok (.iconst 2, 1) := by decide +kernel
theorem dd_X12_see_56 : decode Y_X12_see.2.1 56 = .ok (.aload_n 0, 1) := by decide +kernel
theorem dd_X12_see_57 : decode Y_X12_see.2.1 57 = .ok (.getfield 332, 3) := by decide +kernel
theorem dd_X12_see_60 : decode Y_X12_see.2.1 60 = .ok (.imul, 1) := by decide +kernel
theorem dd_X12_see_61 : decode Y_X12_see.2.1 61 = .ok (.iconst 1, 1) := by decide +kernel
theorem dd_X12_see_62 : decode Y_X12_see.2.1 62 = .ok (.iadd, 1) := by decide +kernel
theorem dd_X12_see_63 : decode Y_X12_see.2.1 63 = .ok (.iload_n 2, 1) := by decide +kernel
theorem dd_X12_see_64 : decode Y_X12_see.2.1 64 = .ok (.iastore, 1) := by decide +kernel
theorem dd_X12_see_65 : decode Y_X12_see.2.1 65 = .ok (.aload_n 0, 1) := by decide +kernel
theorem dd_X12_see_66 : decode Y_X12_see.2.1 66 = .ok (.dup, 1) := by decide +kernel
theorem dd_X12_see_67 : decode Y_X12_see.2.1 67 = .ok (.getfield 332, 3) := by decide +kernel
theorem dd_X12_see_70 : decode Y_X12_see.2.1 70 = .ok (.iconst 1, 1) := by decide +kernel
theorem dd_X12_see_71 : decode Y_X12_see.2.1 71 = .ok (.iadd, 1) := by decide +kernel
theorem dd_X12_see_72 : decode Y_X12_see.2.1 72 = .ok (.putfield 332, 3) := by decide +kernel
theorem dd_X12_see_75 : decode Y_X12_see.2.1 75 = .ok (.aload_n 0, 1) := by decide +kernel
theorem dd_X12_see_76 : decode Y_X12_see.2.1 76 = .ok (.getfield 332, 3) := by decide +kernel
theorem dd_X12_see_79 : decode Y_X12_see.2.1 79 = .ok (.ireturn, 1) := by decide +kernel
def F_X12_see (t : Nat) (a1 : Int32) (a2 : Int32) (M : zM) : zO := zst (zup M t 0 0) (fun M1 => zbI (F_X12_isOne t a1 M1) (fun r1 M2 => zjo (fun  (M8 : zM) => zI 0 M8) (fun (k1 : zM → zO) => zit (r1 = 0) (k1 M2) (zbI (F_X12_isOne t a2 M2) (fun r2 M3 => zit (r2 = 0) (k1 M3) (zit ((M3 t 64) = 8) (zbI (F_X12_refuses t 2 (-1) M3) (fun r3 M7 => zI r3 M7)) (zck (zin (2 * (M3 t 64)) 16) (zst (zup M3 (zgr t 65) (zix (2 * (M3 t 64))) a1) (fun M4 => zck (zin ((2 * (M4 t 64)) + 1) 16) (zst (zup M4 (zgr t 65) (zix ((2 * (M4 t 64)) + 1)) a2) (fun M5 => zst (zup M5 t 64 ((M5 t 64) + 1)) (fun M6 => zI (M6 t 64) M6))))))))))))
set_option maxHeartbeats 1000000 in
set_option maxRecDepth 20000 in
theorem ct_X12_see (l : Launch) (hl : l.stackTraces = false) (G : zG) (t : Nat) (ht : zsh t = 12) (a1 : Int32) (a2 : Int32) (M : zM) : zMt l G Y_X12_see 3 [.ref (G.2.1 + t), .int a1, .int a2] M (F_X12_see t a1 a2 M) := by
  refine zMt_of (by decide +kernel) (Nat.le_of_ble_eq_true rfl) ?_
  show zEv l G Y_X12_see 3 0 0 [(0, .ref (G.2.1 + t)), (1, .int a1), (2, .int a2)] [] M (zst (zup M t 0 0) (fun M1 => zbI (F_X12_isOne t a1 M1) (fun r1 M2 => zjo (fun  (M8 : zM) => zI 0 M8) (fun (k1 : zM → zO) => zit (r1 = 0) (k1 M2) (zbI (F_X12_isOne t a2 M2) (fun r2 M3 => zit (r2 = 0) (k1 M3) (zit ((M3 t 64) = 8) (zbI (F_X12_refuses t 2 (-1) M3) (fun r3 M7 => zI r3 M7)) (zck (zin (2 * (M3 t 64)) 16) (zst (zup M3 (zgr t 65) (zix (2 * (M3 t 64))) a1) (fun M4 => zck (zin ((2 * (M4 t 64)) + 1) 16) (zst (zup M4 (zgr t 65) (zix ((2 * (M4 t 64)) + 1)) a2) (fun M5 => zst (zup M5 t 64 ((M5 t 64) + 1)) (fun M6 => zI (M6 t 64) M6)))))))))))))
  refine ev_aload_n dd_X12_see_0 0 rfl ?_
  refine ev_iconst (v := 0) dd_X12_see_1 (by decide) ?_
  refine ev_putI gw_RX12_153 dd_X12_see_2 ht (by decide) ?_
  refine ev_st (fun M1 => ?_)
  refine ev_aload_n dd_X12_see_5 0 rfl ?_
  refine ev_iload_n dd_X12_see_6 1 rfl ?_
  refine ev_callVI (As := [.int a1]) cl_RX12_346 (ct_X12_isOne l hl G t ht a1 M1) dd_X12_see_7 ht (by decide) (Nat.le_of_ble_eq_true rfl) (Nat.le_of_ble_eq_true rfl) rfl rfl (fun r1 M2 => ?_)
  refine ev_jo (fun (k1 : zM → zO) => ∀  (M8 : zM), zEv l G Y_X12_see 3 0 21 [] [] M8 (k1 M8)) ?_ (fun k1 hk1 => ?_)
  · intro M8
    refine ev_iconst (v := 0) dd_X12_see_21 (by decide) ?_
    exact ev_iret dd_X12_see_22 rfl (Nat.le_of_ble_eq_true rfl) rfl
  · refine ev_if_eq 21 dd_X12_see_10 (by decide) ?_ ?_
    · refine ev_lv (lv' := []) [] rfl ?_
      exact hk1 _
    · refine ev_aload_n dd_X12_see_13 0 rfl ?_
      refine ev_iload_n dd_X12_see_14 2 rfl ?_
      refine ev_callVI (As := [.int a2]) cl_RX12_346 (ct_X12_isOne l hl G t ht a2 M2) dd_X12_see_15 ht (by decide) (Nat.le_of_ble_eq_true rfl) (Nat.le_of_ble_eq_true rfl) rfl rfl (fun r2 M3 => ?_)
      refine ev_if_ne 23 dd_X12_see_18 (by decide) ?_ ?_
      · refine ev_aload_n dd_X12_see_23 0 rfl ?_
        refine ev_getI gf_RX12_332 dd_X12_see_24 ht (by decide) ?_
        refine ev_bipush (v := 8) dd_X12_see_27 (by decide) ?_
        refine ev_icmp_ne 39 dd_X12_see_29 (by decide) ?_ ?_
        · refine ev_aload_n dd_X12_see_39 0 rfl ?_
          refine ev_getR gf_RX12_129 dd_X12_see_40 ht (by decide) ?_
          refine ev_iconst (v := 2) dd_X12_see_43 (by decide) ?_
          refine ev_aload_n dd_X12_see_44 0 rfl ?_
          refine ev_getI gf_RX12_332 dd_X12_see_45 ht (by decide) ?_
          refine ev_imul dd_X12_see_48 ?_
          refine ev_iload_n dd_X12_see_49 1 rfl ?_
          refine ev_lv (lv' := [(0, .ref (G.2.1 + t)), (2, .int a2)]) [0, 2] rfl ?_
          refine ev_iast dd_X12_see_50 ((zg_12_65 ht).1) ((zg_12_65 ht).2) ?_
          refine ev_st (fun M4 => ?_)
          refine ev_aload_n dd_X12_see_51 0 rfl ?_
          refine ev_getR gf_RX12_129 dd_X12_see_52 ht (by decide) ?_
          refine ev_iconst (v := 2) dd_X12_see_55 (by decide) ?_
          refine ev_aload_n dd_X12_see_56 0 rfl ?_
          refine ev_getI gf_RX12_332 dd_X12_see_57 ht (by decide) ?_
          refine ev_imul dd_X12_see_60 ?_
          refine ev_iconst (v := 1) dd_X12_see_61 (by decide) ?_
          refine ev_iadd dd_X12_see_62 ?_
          refine ev_iload_n dd_X12_see_63 1 rfl ?_
          refine ev_lv (lv' := [(0, .ref (G.2.1 + t))]) [0] rfl ?_
          refine ev_iast dd_X12_see_64 ((zg_12_65 ht).1) ((zg_12_65 ht).2) ?_
          refine ev_st (fun M5 => ?_)
          refine ev_aload_n dd_X12_see_65 0 rfl ?_
          refine ev_dup dd_X12_see_66 rfl ?_
          refine ev_getI gf_RX12_332 dd_X12_see_67 ht (by decide) ?_
          refine ev_iconst (v := 1) dd_X12_see_70 (by decide) ?_
          refine ev_iadd dd_X12_see_71 ?_
          refine ev_putI gw_RX12_332 dd_X12_see_72 ht (by decide) ?_
          refine ev_st (fun M6 => ?_)
          refine ev_aload_n dd_X12_see_75 0 rfl ?_
          refine ev_lv (lv' := []) [] rfl ?_
          refine ev_getI gf_RX12_332 dd_X12_see_76 ht (by decide) ?_
          exact ev_iret dd_X12_see_79 rfl (Nat.le_of_ble_eq_true rfl) rfl
        · refine ev_lv (lv' := [(0, .ref (G.2.1 + t))]) [0] rfl ?_
          refine ev_aload_n dd_X12_see_32 0 rfl ?_
          refine ev_lv (lv' := []) [] rfl ?_
          refine ev_iconst (v := 2) dd_X12_see_33 (by decide) ?_
          refine ev_iconst (v := (-1)) dd_X12_see_34 (by decide) ?_
          refine ev_callVI (As := [.int 2, .int (-1)]) cl_RX12_387 (ct_X12_refuses l hl G t ht 2 (-1) M3) dd_X12_see_35 ht (by decide) (Nat.le_of_ble_eq_true rfl) (Nat.le_of_ble_eq_true rfl) rfl rfl (fun r3 M7 => ?_)
          exact ev_iret dd_X12_see_38 rfl (Nat.le_of_ble_eq_true rfl) rfl
      · refine ev_lv (lv' := []) [] rfl ?_
        exact hk1 _
/-! X12_ship -/
theorem dd_X12_ship_0 : decode Y_X12_ship.2.1 0 = .ok (.aload_n 0, 1) := by decide +kernel
theorem dd_X12_ship_1 : decode Y_X12_ship.2.1 1 = .ok (.iconst 0, 1) := by decide +kernel
theorem dd_X12_ship_2 : decode Y_X12_ship.2.1 2 = .ok (.putfield 153, 3) := by decide +kernel
theorem dd_X12_ship_5 : decode Y_X12_ship.2.1 5 = .ok (.aload_n 0, 1) := by decide +kernel
theorem dd_X12_ship_6 : decode Y_X12_ship.2.1 6 = .ok (.iload_n 3, 1) := by decide +kernel
theorem dd_X12_ship_7 : decode Y_X12_ship.2.1 7 = .ok (.invokevirtual 346, 3) := by decide +kernel
theorem dd_X12_ship_10 : decode Y_X12_ship.2.1 10 = .ok (.ifCond .eq 36, 3) := by decide +kernel
theorem dd_X12_ship_13 : decode Y_X12_ship.2.1 13 = .ok (.aload_n 0, 1) := by decide +kernel
theorem dd_X12_ship_14 : decode Y_X12_ship.2.1 14 = .ok (.iload_n 1, 1) := by decide +kernel
theorem dd_X12_ship_15 : decode Y_X12_ship.2.1 15 = .ok (.iconst 0, 1) := by decide +kernel
theorem dd_X12_ship_16 : decode Y_X12_ship.2.1 16 = .ok (.bipush 60, 2) := by decide +kernel
theorem dd_X12_ship_18 : decode Y_X12_ship.2.1 18 = .ok (.invokestatic 339, 3) := by decide +kernel
theorem dd_X12_ship_21 : decode Y_X12_ship.2.1 21 = .ok (.ifCond .eq 17, 3) := by decide +kernel
theorem dd_X12_ship_24 : decode Y_X12_ship.2.1 24 = .ok (.iload_n 2, 1) := by decide +kernel
theorem dd_X12_ship_25 : decode Y_X12_ship.2.1 25 = .ok (.iconst 0, 1) := by decide +kernel
theorem dd_X12_ship_26 : decode Y_X12_ship.2.1 26 = .ok (.bipush 60, 2) := by decide +kernel
theorem dd_X12_ship_28 : decode Y_X12_ship.2.1 28 = .ok (.invokestatic 339, 3) := by decide +kernel
theorem dd_X12_ship_31 : decode Y_X12_ship.2.1 31 = .ok (.ifCond .eq 7, 3) := by decide +kernel
theorem dd_X12_ship_34 : decode Y_X12_ship.2.1 34 = .ok (.iconst 1, 1) := by decide +kernel
theorem dd_X12_ship_35 : decode Y_X12_ship.2.1 35 = .ok (.goto 4, 3) := by decide +kernel
theorem dd_X12_ship_38 : decode Y_X12_ship.2.1 38 = .ok (.iconst 0, 1) := by decide +kernel
theorem dd_X12_ship_39 : decode Y_X12_ship.2.1 39 = .ok (.iconst 2, 1) := by decide +kernel
theorem dd_X12_ship_40 : decode Y_X12_ship.2.1 40 = .ok (.invokevirtual 312, 3) := by decide +kernel
theorem dd_X12_ship_43 : decode Y_X12_ship.2.1 43 = .ok (.ifCond .ne 5, 3) := by decide +kernel
theorem dd_X12_ship_46 : decode Y_X12_ship.2.1 46 = .ok (.iconst 0, 1) := by decide +kernel
theorem dd_X12_ship_47 : decode Y_X12_ship.2.1 47 = .ok (.ireturn, 1) := by decide +kernel
theorem dd_X12_ship_48 : decode Y_X12_ship.2.1 48 = .ok (.aload_n 0, 1) := by decide +kernel
theorem dd_X12_ship_49 : decode Y_X12_ship.2.1 49 = .ok (.aload_n 0, 1) := by decide +kernel
theorem dd_X12_ship_50 : decode Y_X12_ship.2.1 50 = .ok (.getfield 87, 3) := by decide +kernel
theorem dd_X12_ship_53 : decode Y_X12_ship.2.1 53 = .ok (.aload_n 0, 1) := by decide +kernel
theorem dd_X12_ship_54 : decode Y_X12_ship.2.1 54 = .ok (.getfield 90, 3) := by decide +kernel
theorem dd_X12_ship_57 : decode Y_X12_ship.2.1 57 = .ok (.invokevirtual 325, 3) := by decide +kernel
theorem dd_X12_ship_60 : decode Y_X12_ship.2.1 60 = .ok (.iload_n 1, 1) := by decide +kernel
theorem dd_X12_ship_61 : decode Y_X12_ship.2.1 61 = .ok (.istore 4, 2) := by decide +kernel
theorem dd_X12_ship_63 : decode Y_X12_ship.2.1 63 = .ok (.iload_n 2, 1) := by decide +kernel
theorem dd_X12_ship_64 : decode Y_X12_ship.2.1 64 = .ok (.istore 5, 2) := by decide +kernel
theorem dd_X12_ship_66 : decode Y_X12_ship.2.1 66 = .ok (.iload 4, 2) := by decide +kernel
theorem dd_X12_ship_68 : decode Y_X12_ship.2.1 68 = .ok (.aload_n 0, 1) := by decide +kernel
theorem dd_X12_ship_69 : decode Y_X12_ship.2.1 69 = .ok (.getfield 23, 3) := by decide +kernel
theorem dd_X12_ship_72 : decode Y_X12_ship.2.1 72 = .ok (.aload_n 0, 1) := by decide +kernel
theorem dd_X12_ship_73 : decode Y_X12_ship.2.1 73 = .ok (.getfield 90, 3) := by decide +kernel
theorem dd_X12_ship_76 : decode Y_X12_ship.2.1 76 = .ok (.iload_n 3, 1) := by decide +kernel
theorem dd_X12_ship_77 : decode Y_X12_ship.2.1 77 = .ok (.iaload, 1) := by decide +kernel
theorem dd_X12_ship_78 : decode Y_X12_ship.2.1 78 = .ok (.iaload, 1) := by decide +kernel
theorem dd_X12_ship_79 : decode Y_X12_ship.2.1 79 = .ok (.if_icmp .ne 21, 3) := by decide +kernel
theorem dd_X12_ship_82 : decode Y_X12_ship.2.1 82 = .ok (.iload 5, 2) := by decide +kernel
theorem dd_X12_ship_84 : decode Y_X12_ship.2.1 84 = .ok (.aload_n 0, 1) := by decide +kernel
theorem dd_X12_ship_85 : decode Y_X12_ship.2.1 85 = .ok (.getfield 26, 3) := by decide +kernel
theorem dd_X12_ship_88 : decode Y_X12_ship.2.1 88 = .ok (.aload_n 0, 1) := by decide +kernel
theorem dd_X12_ship_89 : decode Y_X12_ship.2.1 89 = .ok (.getfield 90, 3) := by decide +kernel
theorem dd_X12_ship_92 : decode Y_X12_ship.2.1 92 = .ok (.iload_n 3, 1) := by decide +kernel
theorem dd_X12_ship_93 : decode Y_X12_ship.2.1 93 = .ok (.iaload, 1) := by decide +kernel
theorem dd_X12_ship_94 : decode Y_X12_ship.2.1 94 = .ok (.iaload, 1) := by decide +kernel
theorem dd_X12_ship_95 : decode Y_X12_ship.2.1 95 = .ok (.if_icmp .ne 5, 3) := by decide +kernel
theorem dd_X12_ship_98 : decode Y_X12_ship.2.1 98 = .ok (.iconst 0, 1) := by decide +kernel
theorem dd_X12_ship_99 : decode Y_X12_ship.2.1 99 = .ok (.ireturn, 1) := by decide +kernel
theorem dd_X12_ship_100 : decode Y_X12_ship.2.1 100 = .ok (.iconst 1, 1) := by decide +kernel
theorem dd_X12_ship_101 : decode Y_X12_ship.2.1 101 = .ok (.istore 6, 2) := by decide +kernel
theorem dd_X12_ship_103 : decode Y_X12_ship.2.1 103 = .ok (.iload 6, 2) := by decide +kernel
theorem dd_X12_ship_105 : decode Y_X12_ship.2.1 105 = .ok (.bipush 100, 2) := by decide +kernel
theorem dd_X12_ship_107 : decode Y_X12_ship.2.1 107 = .ok (.if_icmp .gt 136, 3) := by decide +kernel
theorem dd_X12_ship_110 : decode Y_X12_ship.2.1 110 = .ok (.aload_n 0, 1) := by decide +kernel
theorem dd_X12_ship_111 : decode Y_X12_ship.2.1 111 = .ok (.getfield 23, 3) := by decide +kernel
theorem dd_X12_ship_114 : decode Y_X12_ship.2.1 114 = .ok (.aload_n 0, 1) := by decide +kernel
theorem dd_X12_ship_115 : decode Y_X12_ship.2.1 115 = .ok (.getfield 90, 3) := by decide +kernel
theorem dd_X12_ship_118 : decode Y_X12_ship.2.1 118 = .ok (.iload_n 3, 1) := by decide +kernel
theorem dd_X12_ship_119 : decode Y_X12_ship.2.1 119 = .ok (.iaload, 1) := by decide +kernel
theorem dd_X12_ship_120 : decode Y_X12_ship.2.1 120 = .ok (.iaload, 1) := by decide +kernel
theorem dd_X12_ship_121 : decode Y_X12_ship.2.1 121 = .ok (.istore 7, 2) := by decide +kernel
theorem dd_X12_ship_123 : decode Y_X12_ship.2.1 123 = .ok (.aload_n 0, 1) := by decide +kernel
theorem dd_X12_ship_124 : decode Y_X12_ship.2.1 124 = .ok (.getfield 26, 3) := by decide +kernel
theorem dd_X12_ship_127 : decode Y_X12_ship.2.1 127 = .ok (.aload_n 0, 1) := by decide +kernel
theorem dd_X12_ship_128 : decode Y_X12_ship.2.1 128 = .ok (.getfield 90, 3) := by decide +kernel
theorem dd_X12_ship_131 : decode Y_X12_ship.2.1 131 = .ok (.iload_n 3, 1) := by decide +kernel
theorem dd_X12_ship_132 : decode Y_X12_ship.2.1 132 = .ok (.iaload, 1) := by decide +kernel
theorem dd_X12_ship_133 : decode Y_X12_ship.2.1 133 = .ok (.iaload, 1) := by decide +kernel
theorem dd_X12_ship_134 : decode Y_X12_ship.2.1 134 = .ok (.istore 8, 2) := by decide +kernel
theorem dd_X12_ship_136 : decode Y_X12_ship.2.1 136 = .ok (.aload_n 0, 1) := by decide +kernel
theorem dd_X12_ship_137 : decode Y_X12_ship.2.1 137 = .ok (.getfield 7, 3) := by decide +kernel
theorem dd_X12_ship_140 : decode Y_X12_ship.2.1 140 = .ok (.istore 9, 2) := by decide +kernel
theorem dd_X12_ship_142 : decode Y_X12_ship.2.1 142 = .ok (.iload 9, 2) := by decide +kernel
theorem dd_X12_ship_144 : decode Y_X12_ship.2.1 144 = .ok (.ifCond .le 67, 3) := by decide +kernel
theorem dd_X12_ship_147 : decode Y_X12_ship.2.1 147 = .ok (.iload 4, 2) := by decide +kernel
theorem dd_X12_ship_149 : decode Y_X12_ship.2.1 149 = .ok (.iload 7, 2) := by decide +kernel
theorem dd_X12_ship_151 : decode Y_X12_ship.2.1 151 = .ok (.if_icmp .ne 10, 3) := by decide +kernel
theorem dd_X12_ship_154 : decode Y_X12_ship.2.1 154 = .ok (.iload 5, 2) := by decide +kernel
theorem dd_X12_ship_156 : decode Y_X12_ship.2.1 156 = .ok (.iload 8, 2) := by decide +kernel
theorem dd_X12_ship_158 : decode Y_X12_ship.2.1 158 = .ok (.if_icmp .eq 53, 3) := by decide +kernel
theorem dd_X12_ship_161 : decode Y_X12_ship.2.1 161 = .ok (.iload 4, 2) := by decide +kernel
theorem dd_X12_ship_163 : decode Y_X12_ship.2.1 163 = .ok (.iload 7, 2) := by decide +kernel
theorem dd_X12_ship_165 : decode Y_X12_ship.2.1 165 = .ok (.if_icmp .eq 23, 3) := by decide +kernel
theorem dd_X12_ship_168 : decode Y_X12_ship.2.1 168 = .ok (.iload 4, 2) := by decide +kernel
theorem dd_X12_ship_170 : decode Y_X12_ship.2.1 170 = .ok (.iload 4, 2) := by decide +kernel
theorem dd_X12_ship_172 : decode Y_X12_ship.2.1 172 = .ok (.iload 7, 2) := by decide +kernel
theorem dd_X12_ship_174 : decode Y_X12_ship.2.1 174 = .ok (.if_icmp .ge 7, 3) := by decide +kernel
theorem dd_X12_ship_177 : decode Y_X12_ship.2.1 177 = .ok (.iconst 1, 1) := by decide +kernel
theorem dd_X12_ship_178 : decode Y_X12_ship.2.1 178 = .ok (.goto 4, 3) := by decide +kernel
theorem dd_X12_ship_181 : decode Y_X12_ship.2.1 181 = .ok (.iconst (-1), 1) := by decide +kernel
theorem dd_X12_ship_182 : decode Y_X12_ship.2.1 182 = .ok (.iadd, 1) := by decide +kernel
theorem dd_X12_ship_183 : decode Y_X12_ship.2.1 183 = .ok (.istore 4, 2) := by decide +kernel
theorem dd_X12_ship_185 : decode Y_X12_ship.2.1 185 = .ok (.goto 20, 3) := by decide +kernel
theorem dd_X12_ship_188 : decode Y_X12_ship.2.1 188 = .ok (.iload 5, 2) := by decide +kernel
theorem dd_X12_ship_190 : decode Y_X12_ship.2.1 190 = .ok (.iload 5, 2) := by decide +kernel
theorem dd_X12_ship_192 : decode Y_X12_ship.2.1 192 = .ok (.iload 8, 2) := by decide +kernel
theorem dd_X12_ship_194 : decode Y_X12_ship.2.1 194 = .ok (.if_icmp .ge 7, 3) := by decide +kernel
theorem dd_X12_ship_197 : decode Y_X12_ship.2.1 197 = .ok (.iconst 1, 1) := by decide +kernel
theorem dd_X12_ship_198 : decode Y_X12_ship.2.1 198 = .ok (.goto 4, 3) := by decide +kernel
theorem dd_X12_ship_201 : decode Y_X12_ship.2.1 201 = .ok (.iconst (-1), 1) := by decide +kernel
theorem dd_X12_ship_202 : decode Y_X12_ship.2.1 202 = .ok (.iadd, 1) := by decide +kernel
theorem dd_X12_ship_203 : decode Y_X12_ship.2.1 203 = .ok (.istore 5, 2) := by decide +kernel
theorem dd_X12_ship_205 : decode Y_X12_ship.2.1 205 = .ok (.iinc 9 (-1), 3) := by decide +kernel
theorem dd_X12_ship_208 : decode Y_X12_ship.2.1 208 = .ok (.goto (-66), 3) := by decide +kernel
theorem dd_X12_ship_211 : decode Y_X12_ship.2.1 211 = .ok (.iload 4, 2) := by decide +kernel
theorem dd_X12_ship_213 : decode Y_X12_ship.2.1 213 = .ok (.iload 7, 2) := by decide +kernel
theorem dd_X12_ship_215 : decode Y_X12_ship.2.1 215 = .ok (.if_icmp .ne 13, 3) := by decide +kernel
theorem dd_X12_ship_218 : decode Y_X12_ship.2.1 218 = .ok (.iload 5, 2) := by decide +kernel
theorem dd_X12_ship_220 : decode Y_X12_ship.2.1 220 = .ok (.iload 8, 2) := by decide +kernel
theorem dd_X12_ship_222 : decode Y_X12_ship.2.1 222 = .ok (.if_icmp .ne 6, 3) := by decide +kernel
theorem dd_X12_ship_225 : decode Y_X12_ship.2.1 225 = .ok (.iload 6, 2) := by decide +kernel
theorem dd_X12_ship_227 : decode Y_X12_ship.2.1 227 = .ok (.ireturn, 1) := by decide +kernel
theorem dd_X12_ship_228 : decode Y_X12_ship.2.1 228 = .ok (.aload_n 0, 1) := by decide +kernel
theorem dd_X12_ship_229 : decode Y_X12_ship.2.1 229 = .ok (.aload_n 0, 1) := by decide +kernel
theorem dd_X12_ship_230 : decode Y_X12_ship.2.1 230 = .ok (.getfield 90, 3) := by decide +kernel
theorem dd_X12_ship_233 : decode Y_X12_ship.2.1 233 = .ok (.invokevirtual 393, 3) := by decide +kernel
theorem dd_X12_ship_236 : decode Y_X12_ship.2.1 236 = .ok (.pop, 1) := by decide +kernel
theorem dd_X12_ship_237 : decode Y_X12_ship.2.1 237 = .ok (.iinc 6 1, 3) := by decide +kernel
theorem dd_X12_ship_240 : decode Y_X12_ship.2.1 240 = .ok (.goto (-137), 3) := by decide +kernel
theorem dd_X12_ship_243 : decode Y_X12_ship.2.1 243 = .ok (.iconst (-1), 1) := by decide +kernel
theorem dd_X12_ship_244 : decode Y_X12_ship.2.1 244 = .ok (.ireturn, 1) := by decide +kernel
def F_X12_ship_L142 (x0 : Nat) (x3 : Int32) (x6 : Int32) (x7 : Int32) (x8 : Int32) (K211 : Int32 → Int32 → zM → zO) : Nat → Int32 → Int32 → Int32 → zM → zO
  | 0, _, _, _, _ => none
  | n + 1, x4, x5, x9, M => zit (x9 ≤ 0) (K211 x4 x5 M) (zjo (fun  (M10 : zM) => zjo (fun (w4 : Int32) (w5 : Int32) (M13 : zM) => F_X12_ship_L142 x0 x3 x6 x7 x8 K211 n w4 w5 (x9 + (-1)) M13) (fun (k6 : Int32 → Int32 → zM → zO) => zit (x4 = x7) (zjo (fun (w2 : Int32) (M11 : zM) => zlt (x5 + w2) (fun v4 => k6 x4 v4 M11)) (fun (k7 : Int32 → zM → zO) => zit (x8 ≤ x5) (k7 (-1) M10) (k7 1 M10))) (zjo (fun (w3 : Int32) (M12 : zM) => zlt (x4 + w3) (fun v5 => k6 v5 x5 M12)) (fun (k8 : Int32 → zM → zO) => zit (x7 ≤ x4) (k8 (-1) M10) (k8 1 M10))))) (fun (k5 : zM → zO) => zit (x4 = x7) (zit (x5 = x8) (K211 x4 x5 M) (k5 M)) (k5 M)))
def F_X12_ship_L103 (x0 : Nat) (x3 : Int32) (K243 : zM → zO) : Nat → Int32 → Int32 → Int32 → zM → zO
  | 0, _, _, _, _ => none
  | n + 1, x4, x5, x6, M => zit (100 < x6) (K243 M) (zck (zin x3 73) (zck (zin (M (zgr x0 48) (zix x3)) 8) (zlt (M (zgr x0 7) (zix (M (zgr x0 48) (zix x3)))) (fun v1 => zck (zin x3 73) (zck (zin (M (zgr x0 48) (zix x3)) 8) (zlt (M (zgr x0 8) (zix (M (zgr x0 48) (zix x3)))) (fun v2 => zlt (M x0 3) (fun v3 => F_X12_ship_L142 x0 x3 x6 v1 v2 (fun (y1 : Int32) (y2 : Int32) (M14 : zM) => zjo (fun  (M15 : zM) => zbI (F_X12_yearOf x0 (zgr x0 48) M15) (fun r5 M16 => F_X12_ship_L103 x0 x3 K243 n y1 y2 (x6 + 1) M16)) (fun (k9 : zM → zO) => zit (y1 = v1) (zit (y2 = v2) (zI x6 M14) (k9 M14)) (k9 M14))) zN x4 x5 v3 M))))))))
def F_X12_ship (t : Nat) (a1 : Int32) (a2 : Int32) (a3 : Int32) (M : zM) : zO := zst (zup M t 0 0) (fun M1 => zbI (F_X12_isOne t a3 M1) (fun r1 M2 => zjo (fun  (M18 : zM) => zI 0 M18) (fun (k1 : zM → zO) => zit (r1 = 0) (k1 M2) (zbI (F_X12_within a1 0 60 M2) (fun r2 M3 => zjo (fun (w1 : Int32) (M6 : zM) => zbI (F_X12_right t w1 2 M6) (fun r4 M7 => zit (r4 = 0) (k1 M7) (zbV (F_X12_copies t (zgr t 47) (zgr t 48) M7) (fun M8 => zck (zin a3 73) (zck (zin (M8 (zgr t 48) (zix a3)) 8) (zjo (fun  (M9 : zM) => F_X12_ship_L103 t a3 (fun  (M17 : zM) => zI (-1) M17) zN a1 a2 1 M9) (fun (k4 : zM → zO) => zit (a1 = (M8 (zgr t 7) (zix (M8 (zgr t 48) (zix a3))))) (zck (zin a3 73) (zck (zin (M8 (zgr t 48) (zix a3)) 8) (zit (a2 = (M8 (zgr t 8) (zix (M8 (zgr t 48) (zix a3))))) (zI 0 M8) (k4 M8)))) (k4 M8)))))))) (fun (k2 : Int32 → zM → zO) => zjo (fun  (M5 : zM) => k2 0 M5) (fun (k3 : zM → zO) => zit (r2 = 0) (k3 M3) (zbI (F_X12_within a2 0 60 M3) (fun r3 M4 => zit (r3 = 0) (k3 M4) (k2 1 M4))))))))))
set_option maxHeartbeats 1000000 in
set_option maxRecDepth 20000 in
theorem ct_X12_ship_L142 (l : Launch) (hl : l.stackTraces = false) (G : zG) (x0 : Nat) (hx0 : zsh x0 = 12) (x3 : Int32) (x6 : Int32) (x7 : Int32) (x8 : Int32) (K211 : Int32 → Int32 → zM → zO) (hK211 : ∀ (x4 : Int32) (x5 : Int32) (M : zM), zEv l G Y_X12_ship 6 0 211 [(0, .ref (G.2.1 + x0)), (3, .int x3), (4, .int x4), (5, .int x5), (6, .int x6), (7, .int x7), (8, .int x8)] [] M (K211 x4 x5 M)) : ∀ (n : Nat) (x4 : Int32) (x5 : Int32) (x9 : Int32) (M : zM), zEv l G Y_X12_ship 6 0 142 [(0, .ref (G.2.1 + x0)), (3, .int x3), (4, .int x4), (5, .int x5), (6, .int x6), (7, .int x7), (8, .int x8), (9, .int x9)] [] M (F_X12_ship_L142 x0 x3 x6 x7 x8 K211 n x4 x5 x9 M) := by
  intro n
  induction n with
  | zero => intro x4 x5 x9 M; exact ev_none
  | succ n ih =>
    intro x4 x5 x9 M
    show zEv l G Y_X12_ship 6 0 142 [(0, .ref (G.2.1 + x0)), (3, .int x3), (4, .int x4), (5, .int x5), (6, .int x6), (7, .int x7), (8, .int x8), (9, .int x9)] [] M (zit (x9 ≤ 0) (K211 x4 x5 M) (zjo (fun  (M10 : zM) => zjo (fun (w4 : Int32) (w5 : Int32) (M13 : zM) => F_X12_ship_L142 x0 x3 x6 x7 x8 K211 n w4 w5 (x9 + (-1)) M13) (fun (k6 : Int32 → Int32 → zM → zO) => zit (x4 = x7) (zjo (fun (w2 : Int32) (M11 : zM) => zlt (x5 + w2) (fun v4 => k6 x4 v4 M11)) (fun (k7 : Int32 → zM → zO) => zit (x8 ≤ x5) (k7 (-1) M10) (k7 1 M10))) (zjo (fun (w3 : Int32) (M12 : zM) => zlt (x4 + w3) (fun v5 => k6 v5 x5 M12)) (fun (k8 : Int32 → zM → zO) => zit (x7 ≤ x4) (k8 (-1) M10) (k8 1 M10))))) (fun (k5 : zM → zO) => zit (x4 = x7) (zit (x5 = x8) (K211 x4 x5 M) (k5 M)) (k5 M))))
    refine ev_iload dd_X12_ship_142 7 rfl ?_
    refine ev_if_le 211 dd_X12_ship_144 (by decide) ?_ ?_
    · refine ev_lv (lv' := [(0, .ref (G.2.1 + x0)), (3, .int x3), (4, .int x4), (5, .int x5), (6, .int x6), (7, .int x7), (8, .int x8)]) [0, 1, 2, 3, 4, 5, 6] rfl ?_
      exact hK211 _ _ _
    · refine ev_iload dd_X12_ship_147 2 rfl ?_
      refine ev_iload dd_X12_ship_149 5 rfl ?_
      refine ev_jo (fun (k5 : zM → zO) => ∀  (M10 : zM), zEv l G Y_X12_ship 6 0 161 [(0, .ref (G.2.1 + x0)), (3, .int x3), (4, .int x4), (5, .int x5), (6, .int x6), (7, .int x7), (8, .int x8), (9, .int x9)] [] M10 (k5 M10)) ?_ (fun k5 hk5 => ?_)
      · intro M10
        refine ev_iload dd_X12_ship_161 2 rfl ?_
        refine ev_iload dd_X12_ship_163 5 rfl ?_
        refine ev_jo (fun (k6 : Int32 → Int32 → zM → zO) => ∀ (w4 : Int32) (w5 : Int32) (M13 : zM), zEv l G Y_X12_ship 6 0 205 [(0, .ref (G.2.1 + x0)), (3, .int x3), (4, .int w4), (5, .int w5), (6, .int x6), (7, .int x7), (8, .int x8), (9, .int x9)] [] M13 (k6 w4 w5 M13)) ?_ (fun k6 hk6 => ?_)
        · intro w4 w5 M13
          refine ev_iinc (j := 7) (v := (-1)) (lv' := [(0, .ref (G.2.1 + x0)), (3, .int x3), (4, .int w4), (5, .int w5), (6, .int x6), (7, .int x7), (8, .int x8), (9, .int (x9 + (-1)))]) [1, 2, 3, 4, 5, 6, 7, 0] dd_X12_ship_205 rfl (by decide) (by decide) rfl ?_
          refine ev_goto 142 dd_X12_ship_208 (by decide) ?_
          exact ih _ _ _ _
        · refine ev_icmp_eq 188 dd_X12_ship_165 (by decide) ?_ ?_
          · refine ev_iload dd_X12_ship_188 3 rfl ?_
            refine ev_iload dd_X12_ship_190 3 rfl ?_
            refine ev_lv (lv' := [(0, .ref (G.2.1 + x0)), (3, .int x3), (4, .int x4), (6, .int x6), (7, .int x7), (8, .int x8), (9, .int x9)]) [0, 1, 2, 4, 5, 6, 7] rfl ?_
            refine ev_iload dd_X12_ship_192 5 rfl ?_
            refine ev_jo (fun (k7 : Int32 → zM → zO) => ∀ (w2 : Int32) (M11 : zM), zEv l G Y_X12_ship 6 0 202 [(0, .ref (G.2.1 + x0)), (3, .int x3), (4, .int x4), (6, .int x6), (7, .int x7), (8, .int x8), (9, .int x9)] [.int w2, .int x5] M11 (k7 w2 M11)) ?_ (fun k7 hk7 => ?_)
            · intro w2 M11
              refine ev_iadd dd_X12_ship_202 ?_
              refine ev_topi (fun v4 => ?_)
              refine ev_istore (i := 5) (lv' := [(0, .ref (G.2.1 + x0)), (3, .int x3), (4, .int x4), (5, .int v4), (6, .int x6), (7, .int x7), (8, .int x8), (9, .int x9)]) [1, 2, 3, 0, 4, 5, 6, 7] dd_X12_ship_203 (by decide) rfl ?_
              exact hk6 _ _ _
            · refine ev_icmp_ge 201 dd_X12_ship_194 (by decide) ?_ ?_
              · refine ev_iconst (v := (-1)) dd_X12_ship_201 (by decide) ?_
                exact hk7 _ _
              · refine ev_iconst (v := 1) dd_X12_ship_197 (by decide) ?_
                refine ev_goto 202 dd_X12_ship_198 (by decide) ?_
                exact hk7 _ _
          · refine ev_iload dd_X12_ship_168 2 rfl ?_
            refine ev_iload dd_X12_ship_170 2 rfl ?_
            refine ev_lv (lv' := [(0, .ref (G.2.1 + x0)), (3, .int x3), (5, .int x5), (6, .int x6), (7, .int x7), (8, .int x8), (9, .int x9)]) [0, 1, 3, 4, 5, 6, 7] rfl ?_
            refine ev_iload dd_X12_ship_172 4 rfl ?_
            refine ev_jo (fun (k8 : Int32 → zM → zO) => ∀ (w3 : Int32) (M12 : zM), zEv l G Y_X12_ship 6 0 182 [(0, .ref (G.2.1 + x0)), (3, .int x3), (5, .int x5), (6, .int x6), (7, .int x7), (8, .int x8), (9, .int x9)] [.int w3, .int x4] M12 (k8 w3 M12)) ?_ (fun k8 hk8 => ?_)
            · intro w3 M12
              refine ev_iadd dd_X12_ship_182 ?_
              refine ev_topi (fun v5 => ?_)
              refine ev_istore (i := 4) (lv' := [(0, .ref (G.2.1 + x0)), (3, .int x3), (4, .int v5), (5, .int x5), (6, .int x6), (7, .int x7), (8, .int x8), (9, .int x9)]) [1, 2, 0, 3, 4, 5, 6, 7] dd_X12_ship_183 (by decide) rfl ?_
              refine ev_goto 205 dd_X12_ship_185 (by decide) ?_
              exact hk6 _ _ _
            · refine ev_icmp_ge 181 dd_X12_ship_174 (by decide) ?_ ?_
              · refine ev_iconst (v := (-1)) dd_X12_ship_181 (by decide) ?_
                exact hk8 _ _
              · refine ev_iconst (v := 1) dd_X12_ship_177 (by decide) ?_
                refine ev_goto 182 dd_X12_ship_178 (by decide) ?_
                exact hk8 _ _
      · refine ev_icmp_ne 161 dd_X12_ship_151 (by decide) ?_ ?_
        · exact hk5 _
        · refine ev_iload dd_X12_ship_154 3 rfl ?_
          refine ev_iload dd_X12_ship_156 6 rfl ?_
          refine ev_icmp_eq 211 dd_X12_ship_158 (by decide) ?_ ?_
          · refine ev_lv (lv' := [(0, .ref (G.2.1 + x0)), (3, .int x3), (4, .int x4), (5, .int x5), (6, .int x6), (7, .int x7), (8, .int x8)]) [0, 1, 2, 3, 4, 5, 6] rfl ?_
            exact hK211 _ _ _
          · exact hk5 _
set_option maxHeartbeats 1000000 in
set_option maxRecDepth 20000 in
theorem ct_X12_ship_L103 (l : Launch) (hl : l.stackTraces = false) (G : zG) (x0 : Nat) (hx0 : zsh x0 = 12) (x3 : Int32) (K243 : zM → zO) (hK243 : ∀  (M : zM), zEv l G Y_X12_ship 6 0 243 [] [] M (K243 M)) : ∀ (n : Nat) (x4 : Int32) (x5 : Int32) (x6 : Int32) (M : zM), zEv l G Y_X12_ship 6 0 103 [(0, .ref (G.2.1 + x0)), (3, .int x3), (4, .int x4), (5, .int x5), (6, .int x6)] [] M (F_X12_ship_L103 x0 x3 K243 n x4 x5 x6 M) := by
  intro n
  induction n with
  | zero => intro x4 x5 x6 M; exact ev_none
  | succ n ih =>
    intro x4 x5 x6 M
    show zEv l G Y_X12_ship 6 0 103 [(0, .ref (G.2.1 + x0)), (3, .int x3), (4, .int x4), (5, .int x5), (6, .int x6)] [] M (zit (100 < x6) (K243 M) (zck (zin x3 73) (zck (zin (M (zgr x0 48) (zix x3)) 8) (zlt (M (zgr x0 7) (zix (M (zgr x0 48) (zix x3)))) (fun v1 => zck (zin x3 73) (zck (zin (M (zgr x0 48) (zix x3)) 8) (zlt (M (zgr x0 8) (zix (M (zgr x0 48) (zix x3)))) (fun v2 => zlt (M x0 3) (fun v3 => F_X12_ship_L142 x0 x3 x6 v1 v2 (fun (y1 : Int32) (y2 : Int32) (M14 : zM) => zjo (fun  (M15 : zM) => zbI (F_X12_yearOf x0 (zgr x0 48) M15) (fun r5 M16 => F_X12_ship_L103 x0 x3 K243 n y1 y2 (x6 + 1) M16)) (fun (k9 : zM → zO) => zit (y1 = v1) (zit (y2 = v2) (zI x6 M14) (k9 M14)) (k9 M14))) zN x4 x5 v3 M)))))))))
    refine ev_iload dd_X12_ship_103 4 rfl ?_
    refine ev_bipush (v := 100) dd_X12_ship_105 (by decide) ?_
    refine ev_icmp_gt 243 dd_X12_ship_107 (by decide) ?_ ?_
    · refine ev_lv (lv' := []) [] rfl ?_
      exact hK243 _
    · refine ev_aload_n dd_X12_ship_110 0 rfl ?_
      refine ev_getR gf_RX12_23 dd_X12_ship_111 hx0 (by decide) ?_
      refine ev_aload_n dd_X12_ship_114 0 rfl ?_
      refine ev_getR gf_RX12_90 dd_X12_ship_115 hx0 (by decide) ?_
      refine ev_iload_n dd_X12_ship_118 1 rfl ?_
      refine ev_iald dd_X12_ship_119 ((zg_12_48 hx0).1) ((zg_12_48 hx0).2) ?_
      refine ev_iald dd_X12_ship_120 ((zg_12_7 hx0).1) ((zg_12_7 hx0).2) ?_
      refine ev_topi (fun v1 => ?_)
      refine ev_istore (i := 7) (lv' := [(0, .ref (G.2.1 + x0)), (3, .int x3), (4, .int x4), (5, .int x5), (6, .int x6), (7, .int v1)]) [1, 2, 3, 4, 5, 0] dd_X12_ship_121 (by decide) rfl ?_
      refine ev_aload_n dd_X12_ship_123 0 rfl ?_
      refine ev_getR gf_RX12_26 dd_X12_ship_124 hx0 (by decide) ?_
      refine ev_aload_n dd_X12_ship_127 0 rfl ?_
      refine ev_getR gf_RX12_90 dd_X12_ship_128 hx0 (by decide) ?_
      refine ev_iload_n dd_X12_ship_131 1 rfl ?_
      refine ev_iald dd_X12_ship_132 ((zg_12_48 hx0).1) ((zg_12_48 hx0).2) ?_
      refine ev_iald dd_X12_ship_133 ((zg_12_8 hx0).1) ((zg_12_8 hx0).2) ?_
      refine ev_topi (fun v2 => ?_)
      refine ev_istore (i := 8) (lv' := [(0, .ref (G.2.1 + x0)), (3, .int x3), (4, .int x4), (5, .int x5), (6, .int x6), (7, .int v1), (8, .int v2)]) [1, 2, 3, 4, 5, 6, 0] dd_X12_ship_134 (by decide) rfl ?_
      refine ev_aload_n dd_X12_ship_136 0 rfl ?_
      refine ev_getI gf_RX12_7 dd_X12_ship_137 hx0 (by decide) ?_
      refine ev_topi (fun v3 => ?_)
      refine ev_istore (i := 9) (lv' := [(0, .ref (G.2.1 + x0)), (3, .int x3), (4, .int x4), (5, .int x5), (6, .int x6), (7, .int v1), (8, .int v2), (9, .int v3)]) [1, 2, 3, 4, 5, 6, 7, 0] dd_X12_ship_140 (by decide) rfl ?_
      refine ct_X12_ship_L142 l hl G x0 hx0 x3 x6 v1 v2 _ (fun y1 y2 M14 => ?_) zN _ _ _ _
      refine ev_iload dd_X12_ship_211 2 rfl ?_
      refine ev_iload dd_X12_ship_213 5 rfl ?_
      refine ev_lv (lv' := [(0, .ref (G.2.1 + x0)), (3, .int x3), (4, .int y1), (5, .int y2), (6, .int x6), (8, .int v2)]) [0, 1, 2, 3, 4, 6] rfl ?_
      refine ev_jo (fun (k9 : zM → zO) => ∀  (M15 : zM), zEv l G Y_X12_ship 6 0 228 [(0, .ref (G.2.1 + x0)), (3, .int x3), (4, .int y1), (5, .int y2), (6, .int x6)] [] M15 (k9 M15)) ?_ (fun k9 hk9 => ?_)
      · intro M15
        refine ev_aload_n dd_X12_ship_228 0 rfl ?_
        refine ev_aload_n dd_X12_ship_229 0 rfl ?_
        refine ev_getR gf_RX12_90 dd_X12_ship_230 hx0 (by decide) ?_
        refine ev_callVI (As := [.ref (G.2.1 + (zgr x0 48))]) cl_RX12_393 (ct_X12_yearOf l hl G x0 hx0 (zgr x0 48) ((zg_12_48 hx0).1) M15) dd_X12_ship_233 hx0 (by decide) (Nat.le_of_ble_eq_true rfl) (Nat.le_of_ble_eq_true rfl) rfl rfl (fun r5 M16 => ?_)
        refine ev_pop dd_X12_ship_236 rfl ?_
        refine ev_iinc (j := 4) (v := 1) (lv' := [(0, .ref (G.2.1 + x0)), (3, .int x3), (4, .int y1), (5, .int y2), (6, .int (x6 + 1))]) [1, 2, 3, 4, 0] dd_X12_ship_237 rfl (by decide) (by decide) rfl ?_
        refine ev_goto 103 dd_X12_ship_240 (by decide) ?_
        exact ih _ _ _ _
      · refine ev_icmp_ne 228 dd_X12_ship_215 (by decide) ?_ ?_
        · refine ev_lv (lv' := [(0, .ref (G.2.1 + x0)), (3, .int x3), (4, .int y1), (5, .int y2), (6, .int x6)]) [0, 1, 2, 3, 4] rfl ?_
          exact hk9 _
        · refine ev_iload dd_X12_ship_218 3 rfl ?_
          refine ev_iload dd_X12_ship_220 5 rfl ?_
          refine ev_lv (lv' := [(0, .ref (G.2.1 + x0)), (3, .int x3), (4, .int y1), (5, .int y2), (6, .int x6)]) [0, 1, 2, 3, 4] rfl ?_
          refine ev_icmp_ne 228 dd_X12_ship_222 (by decide) ?_ ?_
          · exact hk9 _
          · refine ev_lv (lv' := [(6, .int x6)]) [4] rfl ?_
            refine ev_iload dd_X12_ship_225 0 rfl ?_
            refine ev_lv (lv' := []) [] rfl ?_
            exact ev_iret dd_X12_ship_227 rfl (Nat.le_of_ble_eq_true rfl) rfl
set_option maxHeartbeats 1000000 in
set_option maxRecDepth 20000 in
theorem ct_X12_ship (l : Launch) (hl : l.stackTraces = false) (G : zG) (t : Nat) (ht : zsh t = 12) (a1 : Int32) (a2 : Int32) (a3 : Int32) (M : zM) : zMt l G Y_X12_ship 6 [.ref (G.2.1 + t), .int a1, .int a2, .int a3] M (F_X12_ship t a1 a2 a3 M) := by
  refine zMt_of (by decide +kernel) (Nat.le_of_ble_eq_true rfl) ?_
  show zEv l G Y_X12_ship 6 0 0 [(0, .ref (G.2.1 + t)), (1, .int a1), (2, .int a2), (3, .int a3)] [] M (zst (zup M t 0 0) (fun M1 => zbI (F_X12_isOne t a3 M1) (fun r1 M2 => zjo (fun  (M18 : zM) => zI 0 M18) (fun (k1 : zM → zO) => zit (r1 = 0) (k1 M2) (zbI (F_X12_within a1 0 60 M2) (fun r2 M3 => zjo (fun (w1 : Int32) (M6 : zM) => zbI (F_X12_right t w1 2 M6) (fun r4 M7 => zit (r4 = 0) (k1 M7) (zbV (F_X12_copies t (zgr t 47) (zgr t 48) M7) (fun M8 => zck (zin a3 73) (zck (zin (M8 (zgr t 48) (zix a3)) 8) (zjo (fun  (M9 : zM) => F_X12_ship_L103 t a3 (fun  (M17 : zM) => zI (-1) M17) zN a1 a2 1 M9) (fun (k4 : zM → zO) => zit (a1 = (M8 (zgr t 7) (zix (M8 (zgr t 48) (zix a3))))) (zck (zin a3 73) (zck (zin (M8 (zgr t 48) (zix a3)) 8) (zit (a2 = (M8 (zgr t 8) (zix (M8 (zgr t 48) (zix a3))))) (zI 0 M8) (k4 M8)))) (k4 M8)))))))) (fun (k2 : Int32 → zM → zO) => zjo (fun  (M5 : zM) => k2 0 M5) (fun (k3 : zM → zO) => zit (r2 = 0) (k3 M3) (zbI (F_X12_within a2 0 60 M3) (fun r3 M4 => zit (r3 = 0) (k3 M4) (k2 1 M4)))))))))))
  refine ev_aload_n dd_X12_ship_0 0 rfl ?_
  refine ev_iconst (v := 0) dd_X12_ship_1 (by decide) ?_
  refine ev_putI gw_RX12_153 dd_X12_ship_2 ht (by decide) ?_
  refine ev_st (fun M1 => ?_)
  refine ev_aload_n dd_X12_ship_5 0 rfl ?_
  refine ev_iload_n dd_X12_ship_6 3 rfl ?_
  refine ev_callVI (As := [.int a3]) cl_RX12_346 (ct_X12_isOne l hl G t ht a3 M1) dd_X12_ship_7 ht (by decide) (Nat.le_of_ble_eq_true rfl) (Nat.le_of_ble_eq_true rfl) rfl rfl (fun r1 M2 => ?_)
  refine ev_jo (fun (k1 : zM → zO) => ∀  (M18 : zM), zEv l G Y_X12_ship 6 0 46 [] [] M18 (k1 M18)) ?_ (fun k1 hk1 => ?_)
  · intro M18
    refine ev_iconst (v := 0) dd_X12_ship_46 (by decide) ?_
    exact ev_iret dd_X12_ship_47 rfl (Nat.le_of_ble_eq_true rfl) rfl
  · refine ev_if_eq 46 dd_X12_ship_10 (by decide) ?_ ?_
    · refine ev_lv (lv' := []) [] rfl ?_
      exact hk1 _
    · refine ev_aload_n dd_X12_ship_13 0 rfl ?_
      refine ev_iload_n dd_X12_ship_14 1 rfl ?_
      refine ev_iconst (v := 0) dd_X12_ship_15 (by decide) ?_
      refine ev_bipush (v := 60) dd_X12_ship_16 (by decide) ?_
      refine ev_callSI (As := [.int a1, .int 0, .int 60]) cl_RX12_339 (ct_X12_within l hl G a1 0 60 M2) dd_X12_ship_18 (by decide) (Nat.le_of_ble_eq_true rfl) (Nat.le_of_ble_eq_true rfl) rfl rfl (fun r2 M3 => ?_)
      refine ev_jo (fun (k2 : Int32 → zM → zO) => ∀ (w1 : Int32) (M6 : zM), zEv l G Y_X12_ship 6 0 39 [(0, .ref (G.2.1 + t)), (1, .int a1), (2, .int a2), (3, .int a3)] [.int w1, .ref (G.2.1 + t)] M6 (k2 w1 M6)) ?_ (fun k2 hk2 => ?_)
      · intro w1 M6
        refine ev_iconst (v := 2) dd_X12_ship_39 (by decide) ?_
        refine ev_callVI (As := [.int w1, .int 2]) cl_RX12_312 (ct_X12_right l hl G t ht w1 2 M6) dd_X12_ship_40 ht (by decide) (Nat.le_of_ble_eq_true rfl) (Nat.le_of_ble_eq_true rfl) rfl rfl (fun r4 M7 => ?_)
        refine ev_if_ne 48 dd_X12_ship_43 (by decide) ?_ ?_
        · refine ev_aload_n dd_X12_ship_48 0 rfl ?_
          refine ev_aload_n dd_X12_ship_49 0 rfl ?_
          refine ev_getR gf_RX12_87 dd_X12_ship_50 ht (by decide) ?_
          refine ev_aload_n dd_X12_ship_53 0 rfl ?_
          refine ev_getR gf_RX12_90 dd_X12_ship_54 ht (by decide) ?_
          refine ev_callVV (As := [.ref (G.2.1 + (zgr t 47)), .ref (G.2.1 + (zgr t 48))]) cl_RX12_325 (ct_X12_copies l hl G t ht (zgr t 47) ((zg_12_47 ht).1) (zgr t 48) ((zg_12_48 ht).1) M7) dd_X12_ship_57 ht (by decide) (Nat.le_of_ble_eq_true rfl) (Nat.le_of_ble_eq_true rfl) rfl rfl (fun M8 => ?_)
          refine ev_iload_n dd_X12_ship_60 1 rfl ?_
          refine ev_lv (lv' := [(0, .ref (G.2.1 + t)), (2, .int a2), (3, .int a3)]) [0, 2, 3] rfl ?_
          refine ev_istore (i := 4) (lv' := [(0, .ref (G.2.1 + t)), (2, .int a2), (3, .int a3), (4, .int a1)]) [1, 2, 3, 0] dd_X12_ship_61 (by decide) rfl ?_
          refine ev_iload_n dd_X12_ship_63 1 rfl ?_
          refine ev_lv (lv' := [(0, .ref (G.2.1 + t)), (3, .int a3), (4, .int a1)]) [0, 2, 3] rfl ?_
          refine ev_istore (i := 5) (lv' := [(0, .ref (G.2.1 + t)), (3, .int a3), (4, .int a1), (5, .int a2)]) [1, 2, 3, 0] dd_X12_ship_64 (by decide) rfl ?_
          refine ev_iload dd_X12_ship_66 2 rfl ?_
          refine ev_aload_n dd_X12_ship_68 0 rfl ?_
          refine ev_getR gf_RX12_23 dd_X12_ship_69 ht (by decide) ?_
          refine ev_aload_n dd_X12_ship_72 0 rfl ?_
          refine ev_getR gf_RX12_90 dd_X12_ship_73 ht (by decide) ?_
          refine ev_iload_n dd_X12_ship_76 1 rfl ?_
          refine ev_iald dd_X12_ship_77 ((zg_12_48 ht).1) ((zg_12_48 ht).2) ?_
          refine ev_iald dd_X12_ship_78 ((zg_12_7 ht).1) ((zg_12_7 ht).2) ?_
          refine ev_jo (fun (k4 : zM → zO) => ∀  (M9 : zM), zEv l G Y_X12_ship 6 0 100 [(0, .ref (G.2.1 + t)), (3, .int a3), (4, .int a1), (5, .int a2)] [] M9 (k4 M9)) ?_ (fun k4 hk4 => ?_)
          · intro M9
            refine ev_iconst (v := 1) dd_X12_ship_100 (by decide) ?_
            refine ev_istore (i := 6) (lv' := [(0, .ref (G.2.1 + t)), (3, .int a3), (4, .int a1), (5, .int a2), (6, .int 1)]) [1, 2, 3, 4, 0] dd_X12_ship_101 (by decide) rfl ?_
            refine ct_X12_ship_L103 l hl G t ht a3 _ (fun M17 => ?_) zN _ _ _ _
            refine ev_iconst (v := (-1)) dd_X12_ship_243 (by decide) ?_
            exact ev_iret dd_X12_ship_244 rfl (Nat.le_of_ble_eq_true rfl) rfl
          · refine ev_icmp_ne 100 dd_X12_ship_79 (by decide) ?_ ?_
            · exact hk4 _
            · refine ev_iload dd_X12_ship_82 3 rfl ?_
              refine ev_aload_n dd_X12_ship_84 0 rfl ?_
              refine ev_getR gf_RX12_26 dd_X12_ship_85 ht (by decide) ?_
              refine ev_aload_n dd_X12_ship_88 0 rfl ?_
              refine ev_getR gf_RX12_90 dd_X12_ship_89 ht (by decide) ?_
              refine ev_iload_n dd_X12_ship_92 1 rfl ?_
              refine ev_iald dd_X12_ship_93 ((zg_12_48 ht).1) ((zg_12_48 ht).2) ?_
              refine ev_iald dd_X12_ship_94 ((zg_12_8 ht).1) ((zg_12_8 ht).2) ?_
              refine ev_icmp_ne 100 dd_X12_ship_95 (by decide) ?_ ?_
              · exact hk4 _
              · refine ev_lv (lv' := []) [] rfl ?_
                refine ev_iconst (v := 0) dd_X12_ship_98 (by decide) ?_
                exact ev_iret dd_X12_ship_99 rfl (Nat.le_of_ble_eq_true rfl) rfl
        · refine ev_lv (lv' := []) [] rfl ?_
          exact hk1 _
      · refine ev_jo (fun (k3 : zM → zO) => ∀  (M5 : zM), zEv l G Y_X12_ship 6 0 38 [(0, .ref (G.2.1 + t)), (1, .int a1), (2, .int a2), (3, .int a3)] [.ref (G.2.1 + t)] M5 (k3 M5)) ?_ (fun k3 hk3 => ?_)
        · intro M5
          refine ev_iconst (v := 0) dd_X12_ship_38 (by decide) ?_
          exact hk2 _ _
        · refine ev_if_eq 38 dd_X12_ship_21 (by decide) ?_ ?_
          · exact hk3 _
          · refine ev_iload_n dd_X12_ship_24 2 rfl ?_
            refine ev_iconst (v := 0) dd_X12_ship_25 (by decide) ?_
            refine ev_bipush (v := 60) dd_X12_ship_26 (by decide) ?_
            refine ev_callSI (As := [.int a2, .int 0, .int 60]) cl_RX12_339 (ct_X12_within l hl G a2 0 60 M3) dd_X12_ship_28 (by decide) (Nat.le_of_ble_eq_true rfl) (Nat.le_of_ble_eq_true rfl) rfl rfl (fun r3 M4 => ?_)
            refine ev_if_eq 38 dd_X12_ship_31 (by decide) ?_ ?_
            · exact hk3 _
            · refine ev_iconst (v := 1) dd_X12_ship_34 (by decide) ?_
              refine ev_goto 39 dd_X12_ship_35 (by decide) ?_
              exact hk2 _ _
/-! X12_shortest -/
theorem dd_X12_shortest_0 : decode Y_X12_shortest.2.1 0 = .ok (.aload_n 0, 1) := by decide +kernel
theorem dd_X12_shortest_1 : decode Y_X12_shortest.2.1 1 = .ok (.iconst 0, 1) := by decide +kernel
theorem dd_X12_shortest_2 : decode Y_X12_shortest.2.1 2 = .ok (.putfield 153, 3) := by decide +kernel
theorem dd_X12_shortest_5 : decode Y_X12_shortest.2.1 5 = .ok (.aload_n 0, 1) := by decide +kernel
theorem dd_X12_shortest_6 : decode Y_X12_shortest.2.1 6 = .ok (.iload_n 1, 1) := by decide +kernel
theorem dd_X12_shortest_7 : decode Y_X12_shortest.2.1 7 = .ok (.ifCond .lt 25, 3) := by decide +kernel
theorem dd_X12_shortest_10 : decode Y_X12_shortest.2.1 10 = .ok (.iload_n 1, 1) := by decide +kernel
theorem dd_X12_shortest_11 : decode Y_X12_shortest.2.1 11 = .ok (.iconst 1, 1) := by decide +kernel
theorem dd_X12_shortest_12 : decode Y_X12_shortest.2.1 12 = .ok (.aload_n 0, 1) := by decide +kernel
theorem dd_X12_shortest_13 : decode Y_X12_shortest.2.1 13 = .ok (.getfield 319, 3) := by decide +kernel
theorem dd_X12_shortest_16 : decode Y_X12_shortest.2.1 16 = .ok (.ishl, 1) := by decide +kernel
theorem dd_X12_shortest_17 : decode Y_X12_shortest.2.1 17 = .ok (.if_icmp .ge 15, 3) := by decide +kernel
theorem dd_X12_shortest_20 : decode Y_X12_shortest.2.1 20 = .ok (.iload_n 1, 1) := by decide +kernel
theorem dd_X12_shortest_21 : decode Y_X12_shortest.2.1 21 = .ok (.invokestatic 406, 3) := by decide +kernel
theorem dd_X12_shortest_24 : decode Y_X12_shortest.2.1 24 = .ok (.iconst 5, 1) := by decide +kernel
theorem dd_X12_shortest_25 : decode Y_X12_shortest.2.1 25 = .ok (.if_icmp .gt 7, 3) := by decide +kernel
theorem dd_X12_shortest_28 : decode Y_X12_shortest.2.1 28 = .ok (.iconst 1, 1) := by decide +kernel
theorem dd_X12_shortest_29 : decode Y_X12_shortest.2.1 29 = .ok (.goto 4, 3) := by decide +kernel
theorem dd_X12_shortest_32 : decode Y_X12_shortest.2.1 32 = .ok (.iconst 0, 1) := by decide +kernel
theorem dd_X12_shortest_33 : decode Y_X12_shortest.2.1 33 = .ok (.iconst 2, 1) := by decide +kernel
theorem dd_X12_shortest_34 : decode Y_X12_shortest.2.1 34 = .ok (.invokevirtual 312, 3) := by decide +kernel
theorem dd_X12_shortest_37 : decode Y_X12_shortest.2.1 37 = .ok (.ifCond .eq 21, 3) := by decide +kernel
theorem dd_X12_shortest_40 : decode Y_X12_shortest.2.1 40 = .ok (.aload_n 0, 1) := by decide +kernel
theorem dd_X12_shortest_41 : decode Y_X12_shortest.2.1 41 = .ok (.iload_n 2, 1) := by decide +kernel
theorem dd_X12_shortest_42 : decode Y_X12_shortest.2.1 42 = .ok (.iconst (-1), 1) := by decide +kernel
theorem dd_X12_shortest_43 : decode Y_X12_shortest.2.1 43 = .ok (.if_icmp .lt 7, 3) := by decide +kernel
theorem dd_X12_shortest_46 : decode Y_X12_shortest.2.1 46 = .ok (.iconst 1, 1) := by decide +kernel
theorem dd_X12_shortest_47 : decode Y_X12_shortest.2.1 47 = .ok (.goto 4, 3) := by decide +kernel
theorem dd_X12_shortest_50 : decode Y_X12_shortest.2.1 50 = .ok (.iconst 0, 1) := by decide +kernel
theorem dd_X12_shortest_51 : decode Y_X12_shortest.2.1 51 = .ok (.iconst 1, 1) := by decide +kernel
theorem dd_X12_shortest_52 : decode Y_X12_shortest.2.1 52 = .ok (.invokevirtual 312, 3) := by decide +kernel
theorem dd_X12_shortest_55 : decode Y_X12_shortest.2.1 55 = .ok (.ifCond .ne 5, 3) := by decide +kernel
theorem dd_X12_shortest_58 : decode Y_X12_shortest.2.1 58 = .ok (.iconst 0, 1) := by decide +kernel
theorem dd_X12_shortest_59 : decode Y_X12_shortest.2.1 59 = .ok (.ireturn, 1) := by decide +kernel
theorem dd_X12_shortest_60 : decode Y_X12_shortest.2.1 60 = .ok (.aload_n 0, 1) := by decide +kernel
theorem dd_X12_shortest_61 : decode Y_X12_shortest.2.1 61 = .ok (.iconst 0, 1) := by decide +kernel
theorem dd_X12_shortest_62 : decode Y_X12_shortest.2.1 62 = .ok (.putfield 434, 3) := by decide +kernel
theorem dd_X12_shortest_65 : decode Y_X12_shortest.2.1 65 = .ok (.iconst 0, 1) := by decide +kernel
theorem dd_X12_shortest_66 : decode Y_X12_shortest.2.1 66 = .ok (.istore_n 3, 1) := by decide +kernel
theorem dd_X12_shortest_67 : decode Y_X12_shortest.2.1 67 = .ok (.iload_n 3, 1) := by decide +kernel
theorem dd_X12_shortest_68 : decode Y_X12_shortest.2.1 68 = .ok (.aload_n 0, 1) := by decide +kernel
theorem dd_X12_shortest_69 : decode Y_X12_shortest.2.1 69 = .ok (.getfield 319, 3) := by decide +kernel
theorem dd_X12_shortest_72 : decode Y_X12_shortest.2.1 72 = .ok (.if_icmp .ge 108, 3) := by decide +kernel
theorem dd_X12_shortest_75 : decode Y_X12_shortest.2.1 75 = .ok (.iload_n 1, 1) := by decide +kernel
theorem dd_X12_shortest_76 : decode Y_X12_shortest.2.1 76 = .ok (.iload_n 3, 1) := by decide +kernel
theorem dd_X12_shortest_77 : decode Y_X12_shortest.2.1 77 = .ok (.ishr, 1) := by decide +kernel
theorem dd_X12_shortest_78 : decode Y_X12_shortest.2.1 78 = .ok (.iconst 1, 1) := by decide +kernel
theorem dd_X12_shortest_79 : decode Y_X12_shortest.2.1 79 = .ok (.iand, 1) := by decide +kernel
theorem dd_X12_shortest_80 : decode Y_X12_shortest.2.1 80 = .ok (.iconst 1, 1) := by decide +kernel
theorem dd_X12_shortest_81 : decode Y_X12_shortest.2.1 81 = .ok (.if_icmp .ne 7, 3) := by decide +kernel
theorem dd_X12_shortest_84 : decode Y_X12_shortest.2.1 84 = .ok (.iconst 1, 1) := by decide +kernel
theorem dd_X12_shortest_85 : decode Y_X12_shortest.2.1 85 = .ok (.goto 4, 3) := by decide +kernel
theorem dd_X12_shortest_88 : decode Y_X12_shortest.2.1 88 = .ok (.iconst 0, 1) := by decide +kernel
theorem dd_X12_shortest_89 : decode Y_X12_shortest.2.1 89 = .ok (.istore 4, 2) := by decide +kernel
theorem dd_X12_shortest_91 : decode Y_X12_shortest.2.1 91 = .ok (.iconst 0, 1) := by decide +kernel
theorem dd_X12_shortest_92 : decode Y_X12_shortest.2.1 92 = .ok (.istore 5, 2) := by decide +kernel
theorem dd_X12_shortest_94 : decode Y_X12_shortest.2.1 94 = .ok (.iload 5, 2) := by decide +kernel
theorem dd_X12_shortest_96 : decode Y_X12_shortest.2.1 96 = .ok (.aload_n 0, 1) := by decide +kernel
theorem dd_X12_shortest_97 : decode Y_X12_shortest.2.1 97 = .ok (.getfield 319, 3) := by decide +kernel
theorem dd_X12_shortest_100 : decode Y_X12_shortest.2.1 100 = .ok (.if_icmp .ge 46, 3) := by decide +kernel
theorem dd_X12_shortest_103 : decode Y_X12_shortest.2.1 103 = .ok (.iload 4, 2) := by decide +kernel
theorem dd_X12_shortest_105 : decode Y_X12_shortest.2.1 105 = .ok (.ifCond .eq 32, 3) := by decide +kernel
theorem dd_X12_shortest_108 : decode Y_X12_shortest.2.1 108 = .ok (.iload 5, 2) := by decide +kernel
theorem dd_X12_shortest_110 : decode Y_X12_shortest.2.1 110 = .ok (.iload_n 3, 1) := by decide +kernel
theorem dd_X12_shortest_111 : decode Y_X12_shortest.2.1 111 = .ok (.if_icmp .eq 22, 3) := by decide +kernel
theorem dd_X12_shortest_114 : decode Y_X12_shortest.2.1 114 = .ok (.iload_n 1, 1) := by decide +kernel
theorem dd_X12_shortest_115 : decode Y_X12_shortest.2.1 115 = .ok (.iload 5, 2) := by decide +kernel
theorem dd_X12_shortest_117 : decode Y_X12_shortest.2.1 117 = .ok (.ishr, 1) := by decide +kernel
theorem dd_X12_shortest_118 : decode Y_X12_shortest.2.1 118 = .ok (.iconst 1, 1) := by decide +kernel
theorem dd_X12_shortest_119 : decode Y_X12_shortest.2.1 119 = .ok (.iand, 1) := by decide +kernel
theorem dd_X12_shortest_120 : decode Y_X12_shortest.2.1 120 = .ok (.ifCond .eq 13, 3) := by decide +kernel
theorem dd_X12_shortest_123 : decode Y_X12_shortest.2.1 123 = .ok (.aload_n 0, 1) := by decide +kernel
theorem dd_X12_shortest_124 : decode Y_X12_shortest.2.1 124 = .ok (.iload_n 3, 1) := by decide +kernel
theorem dd_X12_shortest_125 : decode Y_X12_shortest.2.1 125 = .ok (.iload 5, 2) := by decide +kernel
theorem dd_X12_shortest_127 : decode Y_X12_shortest.2.1 127 = .ok (.invokevirtual 431, 3) := by decide +kernel
theorem dd_X12_shortest_130 : decode Y_X12_shortest.2.1 130 = .ok (.ifCond .ne 7, 3) := by decide +kernel
theorem dd_X12_shortest_133 : decode Y_X12_shortest.2.1 133 = .ok (.iconst 1, 1) := by decide +kernel
theorem dd_X12_shortest_134 : decode Y_X12_shortest.2.1 134 = .ok (.goto 4, 3) := by decide +kernel
theorem dd_X12_shortest_137 : decode Y_X12_shortest.2.1 137 = .ok (.iconst 0, 1) := by decide +kernel
theorem dd_X12_shortest_138 : decode Y_X12_shortest.2.1 138 = .ok (.istore 4, 2) := by decide +kernel
theorem dd_X12_shortest_140 : decode Y_X12_shortest.2.1 140 = .ok (.iinc 5 1, 3) := by decide +kernel
theorem dd_X12_shortest_143 : decode Y_X12_shortest.2.1 143 = .ok (.goto (-49), 3) := by decide +kernel
theorem dd_X12_shortest_146 : decode Y_X12_shortest.2.1 146 = .ok (.iload 4, 2) := by decide +kernel
theorem dd_X12_shortest_148 : decode Y_X12_shortest.2.1 148 = .ok (.ifCond .ne 6, 3) := by decide +kernel
theorem dd_X12_shortest_151 : decode Y_X12_shortest.2.1 151 = .ok (.goto 23, 3) := by decide +kernel
theorem dd_X12_shortest_154 : decode Y_X12_shortest.2.1 154 = .ok (.aload_n 0, 1) := by decide +kernel
theorem dd_X12_shortest_155 : decode Y_X12_shortest.2.1 155 = .ok (.getfield 123, 3) := by decide +kernel
theorem dd_X12_shortest_158 : decode Y_X12_shortest.2.1 158 = .ok (.aload_n 0, 1) := by decide +kernel
theorem dd_X12_shortest_159 : decode Y_X12_shortest.2.1 159 = .ok (.getfield 434, 3) := by decide +kernel
theorem dd_X12_shortest_162 : decode Y_X12_shortest.2.1 162 = .ok (.iload_n 3, 1) := by decide +kernel
theorem dd_X12_shortest_163 : decode Y_X12_shortest.2.1 163 = .ok (.iastore, 1) := by decide +kernel
theorem dd_X12_shortest_164 : decode Y_X12_shortest.2.1 164 = .ok (.aload_n 0, 1) := by decide +kernel
theorem dd_X12_shortest_165 : decode Y_X12_shortest.2.1 165 = .ok (.dup, 1) := by decide +kernel
theorem dd_X12_shortest_166 : decode Y_X12_shortest.2.1 166 = .ok (.getfield 434, 3) := by decide +kernel
theorem dd_X12_shortest_169 : decode Y_X12_shortest.2.1 169 = .ok (.iconst 1, 1) := by decide +kernel
theorem dd_X12_shortest_170 : decode Y_X12_shortest.2.1 170 = .ok (.iadd, 1) := by decide +kernel
theorem dd_X12_shortest_171 : decode Y_X12_shortest.2.1 171 = .ok (.putfield 434, 3) := by decide +kernel
theorem dd_X12_shortest_174 : decode Y_X12_shortest.2.1 174 = .ok (.iinc 3 1, 3) := by decide +kernel
theorem dd_X12_shortest_177 : decode Y_X12_shortest.2.1 177 = .ok (.goto (-110), 3) := by decide +kernel
theorem dd_X12_shortest_180 : decode Y_X12_shortest.2.1 180 = .ok (.iconst (-1), 1) := by decide +kernel
theorem dd_X12_shortest_181 : decode Y_X12_shortest.2.1 181 = .ok (.istore_n 3, 1) := by decide +kernel
theorem dd_X12_shortest_182 : decode Y_X12_shortest.2.1 182 = .ok (.iconst 1, 1) := by decide +kernel
theorem dd_X12_shortest_183 : decode Y_X12_shortest.2.1 183 = .ok (.istore 4, 2) := by decide +kernel
theorem dd_X12_shortest_185 : decode Y_X12_shortest.2.1 185 = .ok (.iload 4, 2) := by decide +kernel
theorem dd_X12_shortest_187 : decode Y_X12_shortest.2.1 187 = .ok (.ifCond .eq 106, 3) := by decide +kernel
theorem dd_X12_shortest_190 : decode Y_X12_shortest.2.1 190 = .ok (.iconst 0, 1) := by decide +kernel
theorem dd_X12_shortest_191 : decode Y_X12_shortest.2.1 191 = .ok (.istore 5, 2) := by decide +kernel
theorem dd_X12_shortest_193 : decode Y_X12_shortest.2.1 193 = .ok (.iconst 0, 1) := by decide +kernel
theorem dd_X12_shortest_194 : decode Y_X12_shortest.2.1 194 = .ok (.istore 6, 2) := by decide +kernel
theorem dd_X12_shortest_196 : decode Y_X12_shortest.2.1 196 = .ok (.iload 6, 2) := by decide +kernel
theorem dd_X12_shortest_198 : decode Y_X12_shortest.2.1 198 = .ok (.aload_n 0, 1) := by decide +kernel
theorem dd_X12_shortest_199 : decode Y_X12_shortest.2.1 199 = .ok (.getfield 434, 3) := by decide +kernel
theorem dd_X12_shortest_202 : decode Y_X12_shortest.2.1 202 = .ok (.if_icmp .ge 56, 3) := by decide +kernel
theorem dd_X12_shortest_205 : decode Y_X12_shortest.2.1 205 = .ok (.iload 5, 2) := by decide +kernel
theorem dd_X12_shortest_207 : decode Y_X12_shortest.2.1 207 = .ok (.aload_n 0, 1) := by decide +kernel
theorem dd_X12_shortest_208 : decode Y_X12_shortest.2.1 208 = .ok (.getfield 20, 3) := by decide +kernel
theorem dd_X12_shortest_211 : decode Y_X12_shortest.2.1 211 = .ok (.aload_n 0, 1) := by decide +kernel
theorem dd_X12_shortest_212 : decode Y_X12_shortest.2.1 212 = .ok (.getfield 123, 3) := by decide +kernel
theorem dd_X12_shortest_215 : decode Y_X12_shortest.2.1 215 = .ok (.iload 6, 2) := by decide +kernel
theorem dd_X12_shortest_217 : decode Y_X12_shortest.2.1 217 = .ok (.iaload, 1) := by decide +kernel
theorem dd_X12_shortest_218 : decode Y_X12_shortest.2.1 218 = .ok (.iaload, 1) := by decide +kernel
theorem dd_X12_shortest_219 : decode Y_X12_shortest.2.1 219 = .ok (.iload 6, 2) := by decide +kernel
theorem dd_X12_shortest_221 : decode Y_X12_shortest.2.1 221 = .ok (.ifCond .ne 7, 3) := by decide +kernel
theorem dd_X12_shortest_224 : decode Y_X12_shortest.2.1 224 = .ok (.iconst 0, 1) := by decide +kernel
theorem dd_X12_shortest_225 : decode Y_X12_shortest.2.1 225 = .ok (.goto 23, 3) := by decide +kernel
theorem dd_X12_shortest_228 : decode Y_X12_shortest.2.1 228 = .ok (.aload_n 0, 1) := by decide +kernel
theorem dd_X12_shortest_229 : decode Y_X12_shortest.2.1 229 = .ok (.aload_n 0, 1) := by decide +kernel
theorem dd_X12_shortest_230 : decode Y_X12_shortest.2.1 230 = .ok (.getfield 123, 3) := by decide +kernel
theorem dd_X12_shortest_233 : decode Y_X12_shortest.2.1 233 = .ok (.iload 6, 2) := by decide +kernel
theorem dd_X12_shortest_235 : decode Y_X12_shortest.2.1 235 = .ok (.iconst 1, 1) := by decide +kernel
theorem dd_X12_shortest_236 : decode Y_X12_shortest.2.1 236 = .ok (.isub, 1) := by decide +kernel
theorem dd_X12_shortest_237 : decode Y_X12_shortest.2.1 237 = .ok (.iaload, 1) := by decide +kernel
theorem dd_X12_shortest_238 : decode Y_X12_shortest.2.1 238 = .ok (.aload_n 0, 1) := by decide +kernel
theorem dd_X12_shortest_239 : decode Y_X12_shortest.2.1 239 = .ok (.getfield 123, 3) := by decide +kernel
theorem dd_X12_shortest_242 : decode Y_X12_shortest.2.1 242 = .ok (.iload 6, 2) := by decide +kernel
theorem dd_X12_shortest_244 : decode Y_X12_shortest.2.1 244 = .ok (.iaload, 1) := by decide +kernel
theorem dd_X12_shortest_245 : decode Y_X12_shortest.2.1 245 = .ok (.invokevirtual 428, 3) := by decide +kernel
theorem dd_X12_shortest_248 : decode Y_X12_shortest.2.1 248 = .ok (.isub, 1) := by decide +kernel
theorem dd_X12_shortest_249 : decode Y_X12_shortest.2.1 249 = .ok (.iadd, 1) := by decide +kernel
theorem dd_X12_shortest_250 : decode Y_X12_shortest.2.1 250 = .ok (.istore 5, 2) := by decide +kernel
theorem dd_X12_shortest_252 : decode Y_X12_shortest.2.1 252 = .ok (.iinc 6 1, 3) := by decide +kernel
theorem dd_X12_shortest_255 : decode Y_X12_shortest.2.1 255 = .ok (.goto (-59), 3) := by decide +kernel
theorem dd_X12_shortest_258 : decode Y_X12_shortest.2.1 258 = .ok (.iload_n 3, 1) := by decide +kernel
theorem dd_X12_shortest_259 : decode Y_X12_shortest.2.1 259 = .ok (.iconst (-1), 1) := by decide +kernel
theorem dd_X12_shortest_260 : decode Y_X12_shortest.2.1 260 = .ok (.if_icmp .eq 9, 3) := by decide +kernel
theorem dd_X12_shortest_263 : decode Y_X12_shortest.2.1 263 = .ok (.iload 5, 2) := by decide +kernel
theorem dd_X12_shortest_265 : decode Y_X12_shortest.2.1 265 = .ok (.iload_n 3, 1) := by decide +kernel
theorem dd_X12_shortest_266 : decode Y_X12_shortest.2.1 266 = .ok (.if_icmp .ge 18, 3) := by decide +kernel
theorem dd_X12_shortest_269 : decode Y_X12_shortest.2.1 269 = .ok (.iload 5, 2) := by decide +kernel
theorem dd_X12_shortest_271 : decode Y_X12_shortest.2.1 271 = .ok (.istore_n 3, 1) := by decide +kernel
theorem dd_X12_shortest_272 : decode Y_X12_shortest.2.1 272 = .ok (.aload_n 0, 1) := by decide +kernel
theorem dd_X12_shortest_273 : decode Y_X12_shortest.2.1 273 = .ok (.aload_n 0, 1) := by decide +kernel
theorem dd_X12_shortest_274 : decode Y_X12_shortest.2.1 274 = .ok (.getfield 123, 3) := by decide +kernel
theorem dd_X12_shortest_277 : decode Y_X12_shortest.2.1 277 = .ok (.aload_n 0, 1) := by decide +kernel
theorem dd_X12_shortest_278 : decode Y_X12_shortest.2.1 278 = .ok (.getfield 126, 3) := by decide +kernel
theorem dd_X12_shortest_281 : decode Y_X12_shortest.2.1 281 = .ok (.invokevirtual 325, 3) := by decide +kernel
theorem dd_X12_shortest_284 : decode Y_X12_shortest.2.1 284 = .ok (.aload_n 0, 1) := by decide +kernel
theorem dd_X12_shortest_285 : decode Y_X12_shortest.2.1 285 = .ok (.invokevirtual 441, 3) := by decide +kernel
theorem dd_X12_shortest_288 : decode Y_X12_shortest.2.1 288 = .ok (.istore 4, 2) := by decide +kernel
theorem dd_X12_shortest_290 : decode Y_X12_shortest.2.1 290 = .ok (.goto (-105), 3) := by decide +kernel
theorem dd_X12_shortest_293 : decode Y_X12_shortest.2.1 293 = .ok (.iload_n 2, 1) := by decide +kernel
theorem dd_X12_shortest_294 : decode Y_X12_shortest.2.1 294 = .ok (.iconst (-1), 1) := by decide +kernel
theorem dd_X12_shortest_295 : decode Y_X12_shortest.2.1 295 = .ok (.if_icmp .ne 7, 3) := by decide +kernel
theorem dd_X12_shortest_298 : decode Y_X12_shortest.2.1 298 = .ok (.iload_n 3, 1) := by decide +kernel
theorem dd_X12_shortest_299 : decode Y_X12_shortest.2.1 299 = .ok (.goto 21, 3) := by decide +kernel
theorem dd_X12_shortest_302 : decode Y_X12_shortest.2.1 302 = .ok (.iload_n 2, 1) := by decide +kernel
theorem dd_X12_shortest_303 : decode Y_X12_shortest.2.1 303 = .ok (.aload_n 0, 1) := by decide +kernel
theorem dd_X12_shortest_304 : decode Y_X12_shortest.2.1 304 = .ok (.getfield 434, 3) := by decide +kernel
theorem dd_X12_shortest_307 : decode Y_X12_shortest.2.1 307 = .ok (.if_icmp .ge 12, 3) := by decide +kernel
theorem dd_X12_shortest_310 : decode Y_X12_shortest.2.1 310 = .ok (.aload_n 0, 1) := by decide +kernel
theorem dd_X12_shortest_311 : decode Y_X12_shortest.2.1 311 = .ok (.getfield 126, 3) := by decide +kernel
theorem dd_X12_shortest_314 : decode Y_X12_shortest.2.1 314 = .ok (.iload_n 2, 1) := by decide +kernel
theorem dd_X12_shortest_315 : decode Y_X12_shortest.2.1 315 = .ok (.iaload, 1) := by decide +kernel
theorem dd_X12_shortest_316 : decode Y_X12_shortest.2.1 316 = .ok (.goto 4, 3) := by decide +kernel
theorem dd_X12_shortest_319 : decode Y_X12_shortest.2.1 319 = .ok (.iconst (-1), 1) := by decide +kernel
theorem dd_X12_shortest_320 : decode Y_X12_shortest.2.1 320 = .ok (.ireturn, 1) := by decide +kernel
def F_X12_shortest_L94 (x0 : Nat) (x1 : Int32) (x2 : Int32) (x3 : Int32) (K146 : Int32 → zM → zO) : Nat → Int32 → Int32 → zM → zO
  | 0, _, _, _ => none
  | n + 1, x4, x5, M => zit ((M x0 1) ≤ x5) (K146 x4 M) (zjo (fun (w4 : Int32) (M13 : zM) => F_X12_shortest_L94 x0 x1 x2 x3 K146 n w4 (x5 + 1) M13) (fun (k6 : Int32 → zM → zO) => zjo (fun  (M12 : zM) => k6 0 M12) (fun (k7 : zM → zO) => zit (x4 = 0) (k7 M) (zjo (fun  (M11 : zM) => k6 1 M11) (fun (k8 : zM → zO) => zit (x5 = x3) (k8 M) (zit (((x1 >>> (x5 &&& 31)) &&& 1) = 0) (k8 M) (zbI (F_X12_isIn x0 x3 x5 M) (fun r4 M10 => zit (r4 = 0) (k8 M10) (k7 M10)))))))))
def F_X12_shortest_L67 (x0 : Nat) (x1 : Int32) (x2 : Int32) (K180 : zM → zO) : Nat → Int32 → zM → zO
  | 0, _, _ => none
  | n + 1, x3, M => zit ((M x0 1) ≤ x3) (K180 M) (zjo (fun (w3 : Int32) (M9 : zM) => F_X12_shortest_L94 x0 x1 x2 x3 (fun (y1 : Int32) (M14 : zM) => zjo (fun  (M17 : zM) => F_X12_shortest_L67 x0 x1 x2 K180 n (x3 + 1) M17) (fun (k9 : zM → zO) => zit (y1 = 0) (k9 M14) (zck (zin (M14 x0 63) 5) (zst (zup M14 (zgr x0 61) (zix (M14 x0 63)) x3) (fun M15 => zst (zup M15 x0 63 ((M15 x0 63) + 1)) (fun M16 => k9 M16)))))) zN w3 0 M9) (fun (k5 : Int32 → zM → zO) => zit (((x1 >>> (x3 &&& 31)) &&& 1) = 1) (k5 1 M) (k5 0 M)))
def F_X12_shortest_L196 (x0 : Nat) (x2 : Int32) (x3 : Int32) (K258 : Int32 → zM → zO) : Nat → Int32 → Int32 → zM → zO
  | 0, _, _, _ => none
  | n + 1, x5, x6, M => zit ((M x0 63) ≤ x6) (K258 x5 M) (zck (zin x6 5) (zck (zin (M (zgr x0 61) (zix x6)) 8) (zjo (fun (w5 : Int32) (M20 : zM) => zlt (x5 + ((M (zgr x0 6) (zix (M (zgr x0 61) (zix x6)))) - w5)) (fun v1 => F_X12_shortest_L196 x0 x2 x3 K258 n v1 (x6 + 1) M20)) (fun (k10 : Int32 → zM → zO) => zit (x6 = 0) (k10 0 M) (zck (zin (x6 - 1) 5) (zck (zin x6 5) (zbI (F_X12_common x0 (M (zgr x0 61) (zix (x6 - 1))) (M (zgr x0 61) (zix x6)) M) (fun r5 M19 => k10 r5 M19))))))))
def F_X12_shortest_L185 (x0 : Nat) (x2 : Int32) (K293 : Int32 → zM → zO) : Nat → Int32 → Int32 → zM → zO
  | 0, _, _, _ => none
  | n + 1, x3, x4, M => zit (x4 = 0) (K293 x3 M) (F_X12_shortest_L196 x0 x2 x3 (fun (y2 : Int32) (M21 : zM) => zjo (fun (w6 : Int32) (M24 : zM) => zbI (F_X12_nextOrder x0 M24) (fun r6 M25 => F_X12_shortest_L185 x0 x2 K293 n w6 r6 M25)) (fun (k11 : Int32 → zM → zO) => zjo (fun  (M22 : zM) => zbV (F_X12_copies x0 (zgr x0 61) (zgr x0 62) M22) (fun M23 => k11 y2 M23)) (fun (k12 : zM → zO) => zit (x3 = (-1)) (k12 M21) (zit (x3 ≤ y2) (k11 x3 M21) (k12 M21))))) zN 0 0 M)
def F_X12_shortest (t : Nat) (a1 : Int32) (a2 : Int32) (M : zM) : zO := zst (zup M t 0 0) (fun M1 => zjo (fun (w1 : Int32) (M4 : zM) => zbI (F_X12_right t w1 2 M4) (fun r2 M5 => zjo (fun  (M28 : zM) => zI 0 M28) (fun (k3 : zM → zO) => zit (r2 = 0) (k3 M5) (zjo (fun (w2 : Int32) (M6 : zM) => zbI (F_X12_right t w2 1 M6) (fun r3 M7 => zit (r3 = 0) (k3 M7) (zst (zup M7 t 63 0) (fun M8 => F_X12_shortest_L67 t a1 a2 (fun  (M18 : zM) => F_X12_shortest_L185 t a2 (fun (y3 : Int32) (M26 : zM) => zjo (fun (w7 : Int32) (M27 : zM) => zI w7 M27) (fun (k13 : Int32 → zM → zO) => zit (a2 = (-1)) (k13 y3 M26) (zit ((M26 t 63) ≤ a2) (k13 (-1) M26) (zck (zin a2 5) (k13 (M26 (zgr t 62) (zix a2)) M26))))) zN (-1) 1 M18) zN 0 M8)))) (fun (k4 : Int32 → zM → zO) => zit (a2 < (-1)) (k4 0 M5) (k4 1 M5)))))) (fun (k1 : Int32 → zM → zO) => zjo (fun  (M3 : zM) => k1 0 M3) (fun (k2 : zM → zO) => zit (a1 < 0) (k2 M1) (zit (((1 : Int32) <<< ((M1 t 1) &&& 31)) ≤ a1) (k2 M1) (zbI (F_X12_bits a1 M1) (fun r1 M2 => zit (5 < r1) (k2 M2) (k1 1 M2)))))))
set_option maxHeartbeats 1000000 in
set_option maxRecDepth 20000 in
theorem ct_X12_shortest_L94 (l : Launch) (hl : l.stackTraces = false) (G : zG) (x0 : Nat) (hx0 : zsh x0 = 12) (x1 : Int32) (x2 : Int32) (x3 : Int32) (K146 : Int32 → zM → zO) (hK146 : ∀ (x4 : Int32) (M : zM), zEv l G Y_X12_shortest 3 0 146 [(0, .ref (G.2.1 + x0)), (1, .int x1), (2, .int x2), (3, .int x3), (4, .int x4)] [] M (K146 x4 M)) : ∀ (n : Nat) (x4 : Int32) (x5 : Int32) (M : zM), zEv l G Y_X12_shortest 3 0 94 [(0, .ref (G.2.1 + x0)), (1, .int x1), (2, .int x2), (3, .int x3), (4, .int x4), (5, .int x5)] [] M (F_X12_shortest_L94 x0 x1 x2 x3 K146 n x4 x5 M) := by
  intro n
  induction n with
  | zero => intro x4 x5 M; exact ev_none
  | succ n ih =>
    intro x4 x5 M
    show zEv l G Y_X12_shortest 3 0 94 [(0, .ref (G.2.1 + x0)), (1, .int x1), (2, .int x2), (3, .int x3), (4, .int x4), (5, .int x5)] [] M (zit ((M x0 1) ≤ x5) (K146 x4 M) (zjo (fun (w4 : Int32) (M13 : zM) => F_X12_shortest_L94 x0 x1 x2 x3 K146 n w4 (x5 + 1) M13) (fun (k6 : Int32 → zM → zO) => zjo (fun  (M12 : zM) => k6 0 M12) (fun (k7 : zM → zO) => zit (x4 = 0) (k7 M) (zjo (fun  (M11 : zM) => k6 1 M11) (fun (k8 : zM → zO) => zit (x5 = x3) (k8 M) (zit (((x1 >>> (x5 &&& 31)) &&& 1) = 0) (k8 M) (zbI (F_X12_isIn x0 x3 x5 M) (fun r4 M10 => zit (r4 = 0) (k8 M10) (k7 M10))))))))))
    refine ev_iload dd_X12_shortest_94 5 rfl ?_
    refine ev_aload_n dd_X12_shortest_96 0 rfl ?_
    refine ev_getI gf_RX12_319 dd_X12_shortest_97 hx0 (by decide) ?_
    refine ev_icmp_ge 146 dd_X12_shortest_100 (by decide) ?_ ?_
    · refine ev_lv (lv' := [(0, .ref (G.2.1 + x0)), (1, .int x1), (2, .int x2), (3, .int x3), (4, .int x4)]) [0, 1, 2, 3, 4] rfl ?_
      exact hK146 _ _
    · refine ev_iload dd_X12_shortest_103 4 rfl ?_
      refine ev_lv (lv' := [(0, .ref (G.2.1 + x0)), (1, .int x1), (2, .int x2), (3, .int x3), (5, .int x5)]) [0, 1, 2, 3, 5] rfl ?_
      refine ev_jo (fun (k6 : Int32 → zM → zO) => ∀ (w4 : Int32) (M13 : zM), zEv l G Y_X12_shortest 3 0 138 [(0, .ref (G.2.1 + x0)), (1, .int x1), (2, .int x2), (3, .int x3), (5, .int x5)] [.int w4] M13 (k6 w4 M13)) ?_ (fun k6 hk6 => ?_)
      · intro w4 M13
        refine ev_istore (i := 4) (lv' := [(0, .ref (G.2.1 + x0)), (1, .int x1), (2, .int x2), (3, .int x3), (4, .int w4), (5, .int x5)]) [1, 2, 3, 4, 0, 5] dd_X12_shortest_138 (by decide) rfl ?_
        refine ev_iinc (j := 5) (v := 1) (lv' := [(0, .ref (G.2.1 + x0)), (1, .int x1), (2, .int x2), (3, .int x3), (4, .int w4), (5, .int (x5 + 1))]) [1, 2, 3, 4, 5, 0] dd_X12_shortest_140 rfl (by decide) (by decide) rfl ?_
        refine ev_goto 94 dd_X12_shortest_143 (by decide) ?_
        exact ih _ _ _
      · refine ev_jo (fun (k7 : zM → zO) => ∀  (M12 : zM), zEv l G Y_X12_shortest 3 0 137 [(0, .ref (G.2.1 + x0)), (1, .int x1), (2, .int x2), (3, .int x3), (5, .int x5)] [] M12 (k7 M12)) ?_ (fun k7 hk7 => ?_)
        · intro M12
          refine ev_iconst (v := 0) dd_X12_shortest_137 (by decide) ?_
          exact hk6 _ _
        · refine ev_if_eq 137 dd_X12_shortest_105 (by decide) ?_ ?_
          · exact hk7 _
          · refine ev_iload dd_X12_shortest_108 4 rfl ?_
            refine ev_iload_n dd_X12_shortest_110 3 rfl ?_
            refine ev_jo (fun (k8 : zM → zO) => ∀  (M11 : zM), zEv l G Y_X12_shortest 3 0 133 [(0, .ref (G.2.1 + x0)), (1, .int x1), (2, .int x2), (3, .int x3), (5, .int x5)] [] M11 (k8 M11)) ?_ (fun k8 hk8 => ?_)
            · intro M11
              refine ev_iconst (v := 1) dd_X12_shortest_133 (by decide) ?_
              refine ev_goto 138 dd_X12_shortest_134 (by decide) ?_
              exact hk6 _ _
            · refine ev_icmp_eq 133 dd_X12_shortest_111 (by decide) ?_ ?_
              · exact hk8 _
              · refine ev_iload_n dd_X12_shortest_114 1 rfl ?_
                refine ev_iload dd_X12_shortest_115 4 rfl ?_
                refine ev_ishr dd_X12_shortest_117 ?_
                refine ev_iconst (v := 1) dd_X12_shortest_118 (by decide) ?_
                refine ev_iand dd_X12_shortest_119 ?_
                refine ev_if_eq 133 dd_X12_shortest_120 (by decide) ?_ ?_
                · exact hk8 _
                · refine ev_aload_n dd_X12_shortest_123 0 rfl ?_
                  refine ev_iload_n dd_X12_shortest_124 3 rfl ?_
                  refine ev_iload dd_X12_shortest_125 4 rfl ?_
                  refine ev_callVI (As := [.int x3, .int x5]) cl_RX12_431 (ct_X12_isIn l hl G x0 hx0 x3 x5 M) dd_X12_shortest_127 hx0 (by decide) (Nat.le_of_ble_eq_true rfl) (Nat.le_of_ble_eq_true rfl) rfl rfl (fun r4 M10 => ?_)
                  refine ev_if_ne 137 dd_X12_shortest_130 (by decide) ?_ ?_
                  · exact hk7 _
                  · exact hk8 _
set_option maxHeartbeats 1000000 in
set_option maxRecDepth 20000 in
theorem ct_X12_shortest_L67 (l : Launch) (hl : l.stackTraces = false) (G : zG) (x0 : Nat) (hx0 : zsh x0 = 12) (x1 : Int32) (x2 : Int32) (K180 : zM → zO) (hK180 : ∀  (M : zM), zEv l G Y_X12_shortest 3 0 180 [(0, .ref (G.2.1 + x0)), (2, .int x2)] [] M (K180 M)) : ∀ (n : Nat) (x3 : Int32) (M : zM), zEv l G Y_X12_shortest 3 0 67 [(0, .ref (G.2.1 + x0)), (1, .int x1), (2, .int x2), (3, .int x3)] [] M (F_X12_shortest_L67 x0 x1 x2 K180 n x3 M) := by
  intro n
  induction n with
  | zero => intro x3 M; exact ev_none
  | succ n ih =>
    intro x3 M
    show zEv l G Y_X12_shortest 3 0 67 [(0, .ref (G.2.1 + x0)), (1, .int x1), (2, .int x2), (3, .int x3)] [] M (zit ((M x0 1) ≤ x3) (K180 M) (zjo (fun (w3 : Int32) (M9 : zM) => F_X12_shortest_L94 x0 x1 x2 x3 (fun (y1 : Int32) (M14 : zM) => zjo (fun  (M17 : zM) => F_X12_shortest_L67 x0 x1 x2 K180 n (x3 + 1) M17) (fun (k9 : zM → zO) => zit (y1 = 0) (k9 M14) (zck (zin (M14 x0 63) 5) (zst (zup M14 (zgr x0 61) (zix (M14 x0 63)) x3) (fun M15 => zst (zup M15 x0 63 ((M15 x0 63) + 1)) (fun M16 => k9 M16)))))) zN w3 0 M9) (fun (k5 : Int32 → zM → zO) => zit (((x1 >>> (x3 &&& 31)) &&& 1) = 1) (k5 1 M) (k5 0 M))))
    refine ev_iload_n dd_X12_shortest_67 3 rfl ?_
    refine ev_aload_n dd_X12_shortest_68 0 rfl ?_
    refine ev_getI gf_RX12_319 dd_X12_shortest_69 hx0 (by decide) ?_
    refine ev_icmp_ge 180 dd_X12_shortest_72 (by decide) ?_ ?_
    · refine ev_lv (lv' := [(0, .ref (G.2.1 + x0)), (2, .int x2)]) [0, 2] rfl ?_
      exact hK180 _
    · refine ev_iload_n dd_X12_shortest_75 1 rfl ?_
      refine ev_iload_n dd_X12_shortest_76 3 rfl ?_
      refine ev_ishr dd_X12_shortest_77 ?_
      refine ev_iconst (v := 1) dd_X12_shortest_78 (by decide) ?_
      refine ev_iand dd_X12_shortest_79 ?_
      refine ev_iconst (v := 1) dd_X12_shortest_80 (by decide) ?_
      refine ev_jo (fun (k5 : Int32 → zM → zO) => ∀ (w3 : Int32) (M9 : zM), zEv l G Y_X12_shortest 3 0 89 [(0, .ref (G.2.1 + x0)), (1, .int x1), (2, .int x2), (3, .int x3)] [.int w3] M9 (k5 w3 M9)) ?_ (fun k5 hk5 => ?_)
      · intro w3 M9
        refine ev_istore (i := 4) (lv' := [(0, .ref (G.2.1 + x0)), (1, .int x1), (2, .int x2), (3, .int x3), (4, .int w3)]) [1, 2, 3, 4, 0] dd_X12_shortest_89 (by decide) rfl ?_
        refine ev_iconst (v := 0) dd_X12_shortest_91 (by decide) ?_
        refine ev_istore (i := 5) (lv' := [(0, .ref (G.2.1 + x0)), (1, .int x1), (2, .int x2), (3, .int x3), (4, .int w3), (5, .int 0)]) [1, 2, 3, 4, 5, 0] dd_X12_shortest_92 (by decide) rfl ?_
        refine ct_X12_shortest_L94 l hl G x0 hx0 x1 x2 x3 _ (fun y1 M14 => ?_) zN _ _ _
        refine ev_iload dd_X12_shortest_146 4 rfl ?_
        refine ev_lv (lv' := [(0, .ref (G.2.1 + x0)), (1, .int x1), (2, .int x2), (3, .int x3)]) [0, 1, 2, 3] rfl ?_
        refine ev_jo (fun (k9 : zM → zO) => ∀  (M17 : zM), zEv l G Y_X12_shortest 3 0 174 [(0, .ref (G.2.1 + x0)), (1, .int x1), (2, .int x2), (3, .int x3)] [] M17 (k9 M17)) ?_ (fun k9 hk9 => ?_)
        · intro M17
          refine ev_iinc (j := 3) (v := 1) (lv' := [(0, .ref (G.2.1 + x0)), (1, .int x1), (2, .int x2), (3, .int (x3 + 1))]) [1, 2, 3, 0] dd_X12_shortest_174 rfl (by decide) (by decide) rfl ?_
          refine ev_goto 67 dd_X12_shortest_177 (by decide) ?_
          exact ih _ _
        · refine ev_if_ne 154 dd_X12_shortest_148 (by decide) ?_ ?_
          · refine ev_aload_n dd_X12_shortest_154 0 rfl ?_
            refine ev_getR gf_RX12_123 dd_X12_shortest_155 hx0 (by decide) ?_
            refine ev_aload_n dd_X12_shortest_158 0 rfl ?_
            refine ev_getI gf_RX12_434 dd_X12_shortest_159 hx0 (by decide) ?_
            refine ev_iload_n dd_X12_shortest_162 3 rfl ?_
            refine ev_iast dd_X12_shortest_163 ((zg_12_61 hx0).1) ((zg_12_61 hx0).2) ?_
            refine ev_st (fun M15 => ?_)
            refine ev_aload_n dd_X12_shortest_164 0 rfl ?_
            refine ev_dup dd_X12_shortest_165 rfl ?_
            refine ev_getI gf_RX12_434 dd_X12_shortest_166 hx0 (by decide) ?_
            refine ev_iconst (v := 1) dd_X12_shortest_169 (by decide) ?_
            refine ev_iadd dd_X12_shortest_170 ?_
            refine ev_putI gw_RX12_434 dd_X12_shortest_171 hx0 (by decide) ?_
            refine ev_st (fun M16 => ?_)
            exact hk9 _
          · refine ev_goto 174 dd_X12_shortest_151 (by decide) ?_
            exact hk9 _
      · refine ev_icmp_ne 88 dd_X12_shortest_81 (by decide) ?_ ?_
        · refine ev_iconst (v := 0) dd_X12_shortest_88 (by decide) ?_
          exact hk5 _ _
        · refine ev_iconst (v := 1) dd_X12_shortest_84 (by decide) ?_
          refine ev_goto 89 dd_X12_shortest_85 (by decide) ?_
          exact hk5 _ _
set_option maxHeartbeats 1000000 in
set_option maxRecDepth 20000 in
theorem ct_X12_shortest_L196 (l : Launch) (hl : l.stackTraces = false) (G : zG) (x0 : Nat) (hx0 : zsh x0 = 12) (x2 : Int32) (x3 : Int32) (K258 : Int32 → zM → zO) (hK258 : ∀ (x5 : Int32) (M : zM), zEv l G Y_X12_shortest 3 0 258 [(0, .ref (G.2.1 + x0)), (2, .int x2), (3, .int x3), (5, .int x5)] [] M (K258 x5 M)) : ∀ (n : Nat) (x5 : Int32) (x6 : Int32) (M : zM), zEv l G Y_X12_shortest 3 0 196 [(0, .ref (G.2.1 + x0)), (2, .int x2), (3, .int x3), (5, .int x5), (6, .int x6)] [] M (F_X12_shortest_L196 x0 x2 x3 K258 n x5 x6 M) := by
  intro n
  induction n with
  | zero => intro x5 x6 M; exact ev_none
  | succ n ih =>
    intro x5 x6 M
    show zEv l G Y_X12_shortest 3 0 196 [(0, .ref (G.2.1 + x0)), (2, .int x2), (3, .int x3), (5, .int x5), (6, .int x6)] [] M (zit ((M x0 63) ≤ x6) (K258 x5 M) (zck (zin x6 5) (zck (zin (M (zgr x0 61) (zix x6)) 8) (zjo (fun (w5 : Int32) (M20 : zM) => zlt (x5 + ((M (zgr x0 6) (zix (M (zgr x0 61) (zix x6)))) - w5)) (fun v1 => F_X12_shortest_L196 x0 x2 x3 K258 n v1 (x6 + 1) M20)) (fun (k10 : Int32 → zM → zO) => zit (x6 = 0) (k10 0 M) (zck (zin (x6 - 1) 5) (zck (zin x6 5) (zbI (F_X12_common x0 (M (zgr x0 61) (zix (x6 - 1))) (M (zgr x0 61) (zix x6)) M) (fun r5 M19 => k10 r5 M19)))))))))
    refine ev_iload dd_X12_shortest_196 4 rfl ?_
    refine ev_aload_n dd_X12_shortest_198 0 rfl ?_
    refine ev_getI gf_RX12_434 dd_X12_shortest_199 hx0 (by decide) ?_
    refine ev_icmp_ge 258 dd_X12_shortest_202 (by decide) ?_ ?_
    · refine ev_lv (lv' := [(0, .ref (G.2.1 + x0)), (2, .int x2), (3, .int x3), (5, .int x5)]) [0, 1, 2, 3] rfl ?_
      exact hK258 _ _
    · refine ev_iload dd_X12_shortest_205 3 rfl ?_
      refine ev_lv (lv' := [(0, .ref (G.2.1 + x0)), (2, .int x2), (3, .int x3), (6, .int x6)]) [0, 1, 2, 4] rfl ?_
      refine ev_aload_n dd_X12_shortest_207 0 rfl ?_
      refine ev_getR gf_RX12_20 dd_X12_shortest_208 hx0 (by decide) ?_
      refine ev_aload_n dd_X12_shortest_211 0 rfl ?_
      refine ev_getR gf_RX12_123 dd_X12_shortest_212 hx0 (by decide) ?_
      refine ev_iload dd_X12_shortest_215 3 rfl ?_
      refine ev_iald dd_X12_shortest_217 ((zg_12_61 hx0).1) ((zg_12_61 hx0).2) ?_
      refine ev_iald dd_X12_shortest_218 ((zg_12_6 hx0).1) ((zg_12_6 hx0).2) ?_
      refine ev_iload dd_X12_shortest_219 3 rfl ?_
      refine ev_jo (fun (k10 : Int32 → zM → zO) => ∀ (w5 : Int32) (M20 : zM), zEv l G Y_X12_shortest 3 0 248 [(0, .ref (G.2.1 + x0)), (2, .int x2), (3, .int x3), (6, .int x6)] [.int w5, .int (M (zgr x0 6) (zix (M (zgr x0 61) (zix x6)))), .int x5] M20 (k10 w5 M20)) ?_ (fun k10 hk10 => ?_)
      · intro w5 M20
        refine ev_isub dd_X12_shortest_248 ?_
        refine ev_iadd dd_X12_shortest_249 ?_
        refine ev_topi (fun v1 => ?_)
        refine ev_istore (i := 5) (lv' := [(0, .ref (G.2.1 + x0)), (2, .int x2), (3, .int x3), (5, .int v1), (6, .int x6)]) [1, 2, 3, 0, 4] dd_X12_shortest_250 (by decide) rfl ?_
        refine ev_iinc (j := 4) (v := 1) (lv' := [(0, .ref (G.2.1 + x0)), (2, .int x2), (3, .int x3), (5, .int v1), (6, .int (x6 + 1))]) [1, 2, 3, 4, 0] dd_X12_shortest_252 rfl (by decide) (by decide) rfl ?_
        refine ev_goto 196 dd_X12_shortest_255 (by decide) ?_
        exact ih _ _ _
      · refine ev_if_ne 228 dd_X12_shortest_221 (by decide) ?_ ?_
        · refine ev_aload_n dd_X12_shortest_228 0 rfl ?_
          refine ev_aload_n dd_X12_shortest_229 0 rfl ?_
          refine ev_getR gf_RX12_123 dd_X12_shortest_230 hx0 (by decide) ?_
          refine ev_iload dd_X12_shortest_233 3 rfl ?_
          refine ev_iconst (v := 1) dd_X12_shortest_235 (by decide) ?_
          refine ev_isub dd_X12_shortest_236 ?_
          refine ev_iald dd_X12_shortest_237 ((zg_12_61 hx0).1) ((zg_12_61 hx0).2) ?_
          refine ev_aload_n dd_X12_shortest_238 0 rfl ?_
          refine ev_getR gf_RX12_123 dd_X12_shortest_239 hx0 (by decide) ?_
          refine ev_iload dd_X12_shortest_242 3 rfl ?_
          refine ev_iald dd_X12_shortest_244 ((zg_12_61 hx0).1) ((zg_12_61 hx0).2) ?_
          refine ev_callVI (As := [.int (M (zgr x0 61) (zix (x6 - 1))), .int (M (zgr x0 61) (zix x6))]) cl_RX12_428 (ct_X12_common l hl G x0 hx0 (M (zgr x0 61) (zix (x6 - 1))) (M (zgr x0 61) (zix x6)) M) dd_X12_shortest_245 hx0 (by decide) (Nat.le_of_ble_eq_true rfl) (Nat.le_of_ble_eq_true rfl) rfl rfl (fun r5 M19 => ?_)
          exact hk10 _ _
        · refine ev_iconst (v := 0) dd_X12_shortest_224 (by decide) ?_
          refine ev_goto 248 dd_X12_shortest_225 (by decide) ?_
          exact hk10 _ _
set_option maxHeartbeats 1000000 in
set_option maxRecDepth 20000 in
theorem ct_X12_shortest_L185 (l : Launch) (hl : l.stackTraces = false) (G : zG) (x0 : Nat) (hx0 : zsh x0 = 12) (x2 : Int32) (K293 : Int32 → zM → zO) (hK293 : ∀ (x3 : Int32) (M : zM), zEv l G Y_X12_shortest 3 0 293 [(0, .ref (G.2.1 + x0)), (2, .int x2), (3, .int x3)] [] M (K293 x3 M)) : ∀ (n : Nat) (x3 : Int32) (x4 : Int32) (M : zM), zEv l G Y_X12_shortest 3 0 185 [(0, .ref (G.2.1 + x0)), (2, .int x2), (3, .int x3), (4, .int x4)] [] M (F_X12_shortest_L185 x0 x2 K293 n x3 x4 M) := by
  intro n
  induction n with
  | zero => intro x3 x4 M; exact ev_none
  | succ n ih =>
    intro x3 x4 M
    show zEv l G Y_X12_shortest 3 0 185 [(0, .ref (G.2.1 + x0)), (2, .int x2), (3, .int x3), (4, .int x4)] [] M (zit (x4 = 0) (K293 x3 M) (F_X12_shortest_L196 x0 x2 x3 (fun (y2 : Int32) (M21 : zM) => zjo (fun (w6 : Int32) (M24 : zM) => zbI (F_X12_nextOrder x0 M24) (fun r6 M25 => F_X12_shortest_L185 x0 x2 K293 n w6 r6 M25)) (fun (k11 : Int32 → zM → zO) => zjo (fun  (M22 : zM) => zbV (F_X12_copies x0 (zgr x0 61) (zgr x0 62) M22) (fun M23 => k11 y2 M23)) (fun (k12 : zM → zO) => zit (x3 = (-1)) (k12 M21) (zit (x3 ≤ y2) (k11 x3 M21) (k12 M21))))) zN 0 0 M))
    refine ev_iload dd_X12_shortest_185 3 rfl ?_
    refine ev_lv (lv' := [(0, .ref (G.2.1 + x0)), (2, .int x2), (3, .int x3)]) [0, 1, 2] rfl ?_
    refine ev_if_eq 293 dd_X12_shortest_187 (by decide) ?_ ?_
    · exact hK293 _ _
    · refine ev_iconst (v := 0) dd_X12_shortest_190 (by decide) ?_
      refine ev_istore (i := 5) (lv' := [(0, .ref (G.2.1 + x0)), (2, .int x2), (3, .int x3), (5, .int 0)]) [1, 2, 3, 0] dd_X12_shortest_191 (by decide) rfl ?_
      refine ev_iconst (v := 0) dd_X12_shortest_193 (by decide) ?_
      refine ev_istore (i := 6) (lv' := [(0, .ref (G.2.1 + x0)), (2, .int x2), (3, .int x3), (5, .int 0), (6, .int 0)]) [1, 2, 3, 4, 0] dd_X12_shortest_194 (by decide) rfl ?_
      refine ct_X12_shortest_L196 l hl G x0 hx0 x2 x3 _ (fun y2 M21 => ?_) zN _ _ _
      refine ev_iload_n dd_X12_shortest_258 2 rfl ?_
      refine ev_iconst (v := (-1)) dd_X12_shortest_259 (by decide) ?_
      refine ev_jo (fun (k11 : Int32 → zM → zO) => ∀ (w6 : Int32) (M24 : zM), zEv l G Y_X12_shortest 3 0 284 [(0, .ref (G.2.1 + x0)), (2, .int x2), (3, .int w6)] [] M24 (k11 w6 M24)) ?_ (fun k11 hk11 => ?_)
      · intro w6 M24
        refine ev_aload_n dd_X12_shortest_284 0 rfl ?_
        refine ev_callVI (As := []) cl_RX12_441 (ct_X12_nextOrder l hl G x0 hx0 M24) dd_X12_shortest_285 hx0 (by decide) (Nat.le_of_ble_eq_true rfl) (Nat.le_of_ble_eq_true rfl) rfl rfl (fun r6 M25 => ?_)
        refine ev_istore (i := 4) (lv' := [(0, .ref (G.2.1 + x0)), (2, .int x2), (3, .int w6), (4, .int r6)]) [1, 2, 3, 0] dd_X12_shortest_288 (by decide) rfl ?_
        refine ev_goto 185 dd_X12_shortest_290 (by decide) ?_
        exact ih _ _ _
      · refine ev_jo (fun (k12 : zM → zO) => ∀  (M22 : zM), zEv l G Y_X12_shortest 3 0 269 [(0, .ref (G.2.1 + x0)), (2, .int x2), (5, .int y2)] [] M22 (k12 M22)) ?_ (fun k12 hk12 => ?_)
        · intro M22
          refine ev_iload dd_X12_shortest_269 2 rfl ?_
          refine ev_lv (lv' := [(0, .ref (G.2.1 + x0)), (2, .int x2)]) [0, 1] rfl ?_
          refine ev_istore_n (i := 3) (lv' := [(0, .ref (G.2.1 + x0)), (2, .int x2), (3, .int y2)]) [1, 2, 0] dd_X12_shortest_271 rfl (by decide) rfl ?_
          refine ev_aload_n dd_X12_shortest_272 0 rfl ?_
          refine ev_aload_n dd_X12_shortest_273 0 rfl ?_
          refine ev_getR gf_RX12_123 dd_X12_shortest_274 hx0 (by decide) ?_
          refine ev_aload_n dd_X12_shortest_277 0 rfl ?_
          refine ev_getR gf_RX12_126 dd_X12_shortest_278 hx0 (by decide) ?_
          refine ev_callVV (As := [.ref (G.2.1 + (zgr x0 61)), .ref (G.2.1 + (zgr x0 62))]) cl_RX12_325 (ct_X12_copies l hl G x0 hx0 (zgr x0 61) ((zg_12_61 hx0).1) (zgr x0 62) ((zg_12_62 hx0).1) M22) dd_X12_shortest_281 hx0 (by decide) (Nat.le_of_ble_eq_true rfl) (Nat.le_of_ble_eq_true rfl) rfl rfl (fun M23 => ?_)
          exact hk11 _ _
        · refine ev_icmp_eq 269 dd_X12_shortest_260 (by decide) ?_ ?_
          · refine ev_lv (lv' := [(0, .ref (G.2.1 + x0)), (2, .int x2), (5, .int y2)]) [0, 1, 3] rfl ?_
            exact hk12 _
          · refine ev_iload dd_X12_shortest_263 3 rfl ?_
            refine ev_iload_n dd_X12_shortest_265 2 rfl ?_
            refine ev_icmp_ge 284 dd_X12_shortest_266 (by decide) ?_ ?_
            · refine ev_lv (lv' := [(0, .ref (G.2.1 + x0)), (2, .int x2), (3, .int x3)]) [0, 1, 2] rfl ?_
              exact hk11 _ _
            · refine ev_lv (lv' := [(0, .ref (G.2.1 + x0)), (2, .int x2), (5, .int y2)]) [0, 1, 3] rfl ?_
              exact hk12 _
set_option maxHeartbeats 1000000 in
set_option maxRecDepth 20000 in
theorem ct_X12_shortest (l : Launch) (hl : l.stackTraces = false) (G : zG) (t : Nat) (ht : zsh t = 12) (a1 : Int32) (a2 : Int32) (M : zM) : zMt l G Y_X12_shortest 3 [.ref (G.2.1 + t), .int a1, .int a2] M (F_X12_shortest t a1 a2 M) := by
  refine zMt_of (by decide +kernel) (Nat.le_of_ble_eq_true rfl) ?_
  show zEv l G Y_X12_shortest 3 0 0 [(0, .ref (G.2.1 + t)), (1, .int a1), (2, .int a2)] [] M (zst (zup M t 0 0) (fun M1 => zjo (fun (w1 : Int32) (M4 : zM) => zbI (F_X12_right t w1 2 M4) (fun r2 M5 => zjo (fun  (M28 : zM) => zI 0 M28) (fun (k3 : zM → zO) => zit (r2 = 0) (k3 M5) (zjo (fun (w2 : Int32) (M6 : zM) => zbI (F_X12_right t w2 1 M6) (fun r3 M7 => zit (r3 = 0) (k3 M7) (zst (zup M7 t 63 0) (fun M8 => F_X12_shortest_L67 t a1 a2 (fun  (M18 : zM) => F_X12_shortest_L185 t a2 (fun (y3 : Int32) (M26 : zM) => zjo (fun (w7 : Int32) (M27 : zM) => zI w7 M27) (fun (k13 : Int32 → zM → zO) => zit (a2 = (-1)) (k13 y3 M26) (zit ((M26 t 63) ≤ a2) (k13 (-1) M26) (zck (zin a2 5) (k13 (M26 (zgr t 62) (zix a2)) M26))))) zN (-1) 1 M18) zN 0 M8)))) (fun (k4 : Int32 → zM → zO) => zit (a2 < (-1)) (k4 0 M5) (k4 1 M5)))))) (fun (k1 : Int32 → zM → zO) => zjo (fun  (M3 : zM) => k1 0 M3) (fun (k2 : zM → zO) => zit (a1 < 0) (k2 M1) (zit (((1 : Int32) <<< ((M1 t 1) &&& 31)) ≤ a1) (k2 M1) (zbI (F_X12_bits a1 M1) (fun r1 M2 => zit (5 < r1) (k2 M2) (k1 1 M2))))))))
  refine ev_aload_n dd_X12_shortest_0 0 rfl ?_
  refine ev_iconst (v := 0) dd_X12_shortest_1 (by decide) ?_
  refine ev_putI gw_RX12_153 dd_X12_shortest_2 ht (by decide) ?_
  refine ev_st (fun M1 => ?_)
  refine ev_aload_n dd_X12_shortest_5 0 rfl ?_
  refine ev_iload_n dd_X12_shortest_6 1 rfl ?_
  refine ev_jo (fun (k1 : Int32 → zM → zO) => ∀ (w1 : Int32) (M4 : zM), zEv l G Y_X12_shortest 3 0 33 [(0, .ref (G.2.1 + t)), (1, .int a1), (2, .int a2)] [.int w1, .ref (G.2.1 + t)] M4 (k1 w1 M4)) ?_ (fun k1 hk1 => ?_)
  · intro w1 M4
    refine ev_iconst (v := 2) dd_X12_shortest_33 (by decide) ?_
    refine ev_callVI (As := [.int w1, .int 2]) cl_RX12_312 (ct_X12_right l hl G t ht w1 2 M4) dd_X12_shortest_34 ht (by decide) (Nat.le_of_ble_eq_true rfl) (Nat.le_of_ble_eq_true rfl) rfl rfl (fun r2 M5 => ?_)
    refine ev_jo (fun (k3 : zM → zO) => ∀  (M28 : zM), zEv l G Y_X12_shortest 3 0 58 [] [] M28 (k3 M28)) ?_ (fun k3 hk3 => ?_)
    · intro M28
      refine ev_iconst (v := 0) dd_X12_shortest_58 (by decide) ?_
      exact ev_iret dd_X12_shortest_59 rfl (Nat.le_of_ble_eq_true rfl) rfl
    · refine ev_if_eq 58 dd_X12_shortest_37 (by decide) ?_ ?_
      · refine ev_lv (lv' := []) [] rfl ?_
        exact hk3 _
      · refine ev_aload_n dd_X12_shortest_40 0 rfl ?_
        refine ev_iload_n dd_X12_shortest_41 2 rfl ?_
        refine ev_iconst (v := (-1)) dd_X12_shortest_42 (by decide) ?_
        refine ev_jo (fun (k4 : Int32 → zM → zO) => ∀ (w2 : Int32) (M6 : zM), zEv l G Y_X12_shortest 3 0 51 [(0, .ref (G.2.1 + t)), (1, .int a1), (2, .int a2)] [.int w2, .ref (G.2.1 + t)] M6 (k4 w2 M6)) ?_ (fun k4 hk4 => ?_)
        · intro w2 M6
          refine ev_iconst (v := 1) dd_X12_shortest_51 (by decide) ?_
          refine ev_callVI (As := [.int w2, .int 1]) cl_RX12_312 (ct_X12_right l hl G t ht w2 1 M6) dd_X12_shortest_52 ht (by decide) (Nat.le_of_ble_eq_true rfl) (Nat.le_of_ble_eq_true rfl) rfl rfl (fun r3 M7 => ?_)
          refine ev_if_ne 60 dd_X12_shortest_55 (by decide) ?_ ?_
          · refine ev_aload_n dd_X12_shortest_60 0 rfl ?_
            refine ev_iconst (v := 0) dd_X12_shortest_61 (by decide) ?_
            refine ev_putI gw_RX12_434 dd_X12_shortest_62 ht (by decide) ?_
            refine ev_st (fun M8 => ?_)
            refine ev_iconst (v := 0) dd_X12_shortest_65 (by decide) ?_
            refine ev_istore_n (i := 3) (lv' := [(0, .ref (G.2.1 + t)), (1, .int a1), (2, .int a2), (3, .int 0)]) [1, 2, 3, 0] dd_X12_shortest_66 rfl (by decide) rfl ?_
            refine ct_X12_shortest_L67 l hl G t ht a1 a2 _ (fun M18 => ?_) zN _ _
            refine ev_iconst (v := (-1)) dd_X12_shortest_180 (by decide) ?_
            refine ev_istore_n (i := 3) (lv' := [(0, .ref (G.2.1 + t)), (2, .int a2), (3, .int (-1))]) [1, 2, 0] dd_X12_shortest_181 rfl (by decide) rfl ?_
            refine ev_iconst (v := 1) dd_X12_shortest_182 (by decide) ?_
            refine ev_istore (i := 4) (lv' := [(0, .ref (G.2.1 + t)), (2, .int a2), (3, .int (-1)), (4, .int 1)]) [1, 2, 3, 0] dd_X12_shortest_183 (by decide) rfl ?_
            refine ct_X12_shortest_L185 l hl G t ht a2 _ (fun y3 M26 => ?_) zN _ _ _
            refine ev_iload_n dd_X12_shortest_293 1 rfl ?_
            refine ev_iconst (v := (-1)) dd_X12_shortest_294 (by decide) ?_
            refine ev_jo (fun (k13 : Int32 → zM → zO) => ∀ (w7 : Int32) (M27 : zM), zEv l G Y_X12_shortest 3 0 320 [] [.int w7] M27 (k13 w7 M27)) ?_ (fun k13 hk13 => ?_)
            · intro w7 M27
              exact ev_iret dd_X12_shortest_320 rfl (Nat.le_of_ble_eq_true rfl) rfl
            · refine ev_icmp_ne 302 dd_X12_shortest_295 (by decide) ?_ ?_
              · refine ev_lv (lv' := [(0, .ref (G.2.1 + t)), (2, .int a2)]) [0, 1] rfl ?_
                refine ev_iload_n dd_X12_shortest_302 1 rfl ?_
                refine ev_aload_n dd_X12_shortest_303 0 rfl ?_
                refine ev_getI gf_RX12_434 dd_X12_shortest_304 ht (by decide) ?_
                refine ev_icmp_ge 319 dd_X12_shortest_307 (by decide) ?_ ?_
                · refine ev_lv (lv' := []) [] rfl ?_
                  refine ev_iconst (v := (-1)) dd_X12_shortest_319 (by decide) ?_
                  exact hk13 _ _
                · refine ev_aload_n dd_X12_shortest_310 0 rfl ?_
                  refine ev_lv (lv' := [(2, .int a2)]) [1] rfl ?_
                  refine ev_getR gf_RX12_126 dd_X12_shortest_311 ht (by decide) ?_
                  refine ev_iload_n dd_X12_shortest_314 0 rfl ?_
                  refine ev_lv (lv' := []) [] rfl ?_
                  refine ev_iald dd_X12_shortest_315 ((zg_12_62 ht).1) ((zg_12_62 ht).2) ?_
                  refine ev_goto 320 dd_X12_shortest_316 (by decide) ?_
                  exact hk13 _ _
              · refine ev_lv (lv' := [(3, .int y3)]) [2] rfl ?_
                refine ev_iload_n dd_X12_shortest_298 0 rfl ?_
                refine ev_lv (lv' := []) [] rfl ?_
                refine ev_goto 320 dd_X12_shortest_299 (by decide) ?_
                exact hk13 _ _
          · refine ev_lv (lv' := []) [] rfl ?_
            exact hk3 _
        · refine ev_icmp_lt 50 dd_X12_shortest_43 (by decide) ?_ ?_
          · refine ev_iconst (v := 0) dd_X12_shortest_50 (by decide) ?_
            exact hk4 _ _
          · refine ev_iconst (v := 1) dd_X12_shortest_46 (by decide) ?_
            refine ev_goto 51 dd_X12_shortest_47 (by decide) ?_
            exact hk4 _ _
  · refine ev_jo (fun (k2 : zM → zO) => ∀  (M3 : zM), zEv l G Y_X12_shortest 3 0 32 [(0, .ref (G.2.1 + t)), (1, .int a1), (2, .int a2)] [.ref (G.2.1 + t)] M3 (k2 M3)) ?_ (fun k2 hk2 => ?_)
    · intro M3
      refine ev_iconst (v := 0) dd_X12_shortest_32 (by decide) ?_
      exact hk1 _ _
    · refine ev_if_lt 32 dd_X12_shortest_7 (by decide) ?_ ?_
      · exact hk2 _
      · refine ev_iload_n dd_X12_shortest_10 1 rfl ?_
        refine ev_iconst (v := 1) dd_X12_shortest_11 (by decide) ?_
        refine ev_aload_n dd_X12_shortest_12 0 rfl ?_
        refine ev_getI gf_RX12_319 dd_X12_shortest_13 ht (by decide) ?_
        refine ev_ishl dd_X12_shortest_16 ?_
        refine ev_icmp_ge 32 dd_X12_shortest_17 (by decide) ?_ ?_
        · exact hk2 _
        · refine ev_iload_n dd_X12_shortest_20 1 rfl ?_
          refine ev_callSI (As := [.int a1]) cl_RX12_406 (ct_X12_bits l hl G a1 M1) dd_X12_shortest_21 (by decide) (Nat.le_of_ble_eq_true rfl) (Nat.le_of_ble_eq_true rfl) rfl rfl (fun r1 M2 => ?_)
          refine ev_iconst (v := 5) dd_X12_shortest_24 (by decide) ?_
          refine ev_icmp_gt 32 dd_X12_shortest_25 (by decide) ?_ ?_
          · exact hk2 _
          · refine ev_iconst (v := 1) dd_X12_shortest_28 (by decide) ?_
            refine ev_goto 33 dd_X12_shortest_29 (by decide) ?_
            exact hk1 _ _
/-! X12_swap -/
theorem dd_X12_swap_0 : decode Y_X12_swap.2.1 0 = .ok (.aload_n 0, 1) := by decide +kernel
theorem dd_X12_swap_1 : decode Y_X12_swap.2.1 1 = .ok (.iconst 0, 1) := by decide +kernel
theorem dd_X12_swap_2 : decode Y_X12_swap.2.1 2 = .ok (.putfield 153, 3) := by decide +kernel
theorem dd_X12_swap_5 : decode Y_X12_swap.2.1 5 = .ok (.aload_n 0, 1) := by decide +kernel
theorem dd_X12_swap_6 : decode Y_X12_swap.2.1 6 = .ok (.iload_n 1, 1) := by decide +kernel
theorem dd_X12_swap_7 : decode Y_X12_swap.2.1 7 = .ok (.invokevirtual 346, 3) := by decide +kernel
theorem dd_X12_swap_10 : decode Y_X12_swap.2.1 10 = .ok (.ifCond .eq 11, 3) := by decide +kernel
theorem dd_X12_swap_13 : decode Y_X12_swap.2.1 13 = .ok (.aload_n 0, 1) := by decide +kernel
theorem dd_X12_swap_14 : decode Y_X12_swap.2.1 14 = .ok (.iload_n 2, 1) := by decide +kernel
theorem dd_X12_swap_15 : decode Y_X12_swap.2.1 15 = .ok (.invokevirtual 346, 3) := by decide +kernel
theorem dd_X12_swap_18 : decode Y_X12_swap.2.1 18 = .ok (.ifCond .ne 5, 3) := by decide +kernel
theorem dd_X12_swap_21 : decode Y_X12_swap.2.1 21 = .ok (.iconst 0, 1) := by decide +kernel
theorem dd_X12_swap_22 : decode Y_X12_swap.2.1 22 = .ok (.ireturn, 1) := by decide +kernel
theorem dd_X12_swap_23 : decode Y_X12_swap.2.1 23 = .ok (.iload_n 1, 1) := by decide +kernel
theorem dd_X12_swap_24 : decode Y_X12_swap.2.1 24 = .ok (.iload_n 2, 1) := by decide +kernel
theorem dd_X12_swap_25 : decode Y_X12_swap.2.1 25 = .ok (.if_icmp .eq 16, 3) := by decide +kernel
theorem dd_X12_swap_28 : decode Y_X12_swap.2.1 28 = .ok (.aload_n 0, 1) := by decide +kernel
theorem dd_X12_swap_29 : decode Y_X12_swap.2.1 29 = .ok (.aload_n 0, 1) := by decide +kernel
theorem dd_X12_swap_30 : decode Y_X12_swap.2.1 30 = .ok (.getfield 87, 3) := by decide +kernel
theorem dd_X12_swap_33 : decode Y_X12_swap.2.1 33 = .ok (.iload_n 1, 1) := by decide +kernel
theorem dd_X12_swap_34 : decode Y_X12_swap.2.1 34 = .ok (.iload_n 2, 1) := by decide +kernel
theorem dd_X12_swap_35 : decode Y_X12_swap.2.1 35 = .ok (.invokevirtual 381, 3) := by decide +kernel
theorem dd_X12_swap_38 : decode Y_X12_swap.2.1 38 = .ok (.ifCond .ne 11, 3) := by decide +kernel
theorem dd_X12_swap_41 : decode Y_X12_swap.2.1 41 = .ok (.aload_n 0, 1) := by decide +kernel
theorem dd_X12_swap_42 : decode Y_X12_swap.2.1 42 = .ok (.iconst 1, 1) := by decide +kernel
theorem dd_X12_swap_43 : decode Y_X12_swap.2.1 43 = .ok (.bipush (-99), 2) := by decide +kernel
theorem dd_X12_swap_45 : decode Y_X12_swap.2.1 45 = .ok (.invokevirtual 387, 3) := by decide +kernel
theorem dd_X12_swap_48 : decode Y_X12_swap.2.1 48 = .ok (.ireturn, 1) := by decide +kernel
theorem dd_X12_swap_49 : decode Y_X12_swap.2.1 49 = .ok (.aload_n 0, 1) := by decide +kernel
theorem dd_X12_swap_50 : decode Y_X12_swap.2.1 50 = .ok (.invokevirtual 390, 3) := by decide +kernel
theorem dd_X12_swap_53 : decode Y_X12_swap.2.1 53 = .ok (.aload_n 0, 1) := by decide +kernel
theorem dd_X12_swap_54 : decode Y_X12_swap.2.1 54 = .ok (.getfield 20, 3) := by decide +kernel
theorem dd_X12_swap_57 : decode Y_X12_swap.2.1 57 = .ok (.aload_n 0, 1) := by decide +kernel
theorem dd_X12_swap_58 : decode Y_X12_swap.2.1 58 = .ok (.getfield 87, 3) := by decide +kernel
theorem dd_X12_swap_61 : decode Y_X12_swap.2.1 61 = .ok (.iload_n 2, 1) := by decide +kernel
theorem dd_X12_swap_62 : decode Y_X12_swap.2.1 62 = .ok (.iaload, 1) := by decide +kernel
theorem dd_X12_swap_63 : decode Y_X12_swap.2.1 63 = .ok (.iaload, 1) := by decide +kernel
theorem dd_X12_swap_64 : decode Y_X12_swap.2.1 64 = .ok (.aload_n 0, 1) := by decide +kernel
theorem dd_X12_swap_65 : decode Y_X12_swap.2.1 65 = .ok (.getfield 20, 3) := by decide +kernel
theorem dd_X12_swap_68 : decode Y_X12_swap.2.1 68 = .ok (.aload_n 0, 1) := by decide +kernel
theorem dd_X12_swap_69 : decode Y_X12_swap.2.1 69 = .ok (.getfield 87, 3) := by decide +kernel
theorem dd_X12_swap_72 : decode Y_X12_swap.2.1 72 = .ok (.iload_n 1, 1) := by decide +kernel
theorem dd_X12_swap_73 : decode Y_X12_swap.2.1 73 = .ok (.iaload, 1) := by decide +kernel
theorem dd_X12_swap_74 : decode Y_X12_swap.2.1 74 = .ok (.iaload, 1) := by decide +kernel
theorem dd_X12_swap_75 : decode Y_X12_swap.2.1 75 = .ok (.isub, 1) := by decide +kernel
theorem dd_X12_swap_76 : decode Y_X12_swap.2.1 76 = .ok (.istore_n 3, 1) := by decide +kernel
theorem dd_X12_swap_77 : decode Y_X12_swap.2.1 77 = .ok (.aload_n 0, 1) := by decide +kernel
theorem dd_X12_swap_78 : decode Y_X12_swap.2.1 78 = .ok (.aload_n 0, 1) := by decide +kernel
theorem dd_X12_swap_79 : decode Y_X12_swap.2.1 79 = .ok (.getfield 87, 3) := by decide +kernel
theorem dd_X12_swap_82 : decode Y_X12_swap.2.1 82 = .ok (.iload_n 1, 1) := by decide +kernel
theorem dd_X12_swap_83 : decode Y_X12_swap.2.1 83 = .ok (.iload_n 2, 1) := by decide +kernel
theorem dd_X12_swap_84 : decode Y_X12_swap.2.1 84 = .ok (.invokevirtual 384, 3) := by decide +kernel
theorem dd_X12_swap_87 : decode Y_X12_swap.2.1 87 = .ok (.iload_n 3, 1) := by decide +kernel
theorem dd_X12_swap_88 : decode Y_X12_swap.2.1 88 = .ok (.ireturn, 1) := by decide +kernel
def F_X12_swap (t : Nat) (a1 : Int32) (a2 : Int32) (M : zM) : zO := zst (zup M t 0 0) (fun M1 => zbI (F_X12_isOne t a1 M1) (fun r1 M2 => zjo (fun  (M9 : zM) => zI 0 M9) (fun (k1 : zM → zO) => zit (r1 = 0) (k1 M2) (zbI (F_X12_isOne t a2 M2) (fun r2 M3 => zit (r2 = 0) (k1 M3) (zjo (fun  (M7 : zM) => zbI (F_X12_refuses t 1 (-99) M7) (fun r4 M8 => zI r4 M8)) (fun (k2 : zM → zO) => zit (a1 = a2) (k2 M3) (zbI (F_X12_maySwap t (zgr t 47) a1 a2 M3) (fun r3 M4 => zit (r3 = 0) (k2 M4) (zbV (F_X12_keeps t M4) (fun M5 => zck (zin a2 73) (zck (zin (M5 (zgr t 47) (zix a2)) 8) (zck (zin a1 73) (zck (zin (M5 (zgr t 47) (zix a1)) 8) (zlt ((M5 (zgr t 6) (zix (M5 (zgr t 47) (zix a2)))) - (M5 (zgr t 6) (zix (M5 (zgr t 47) (zix a1))))) (fun v1 => zbV (F_X12_swapsIn t (zgr t 47) a1 a2 M5) (fun M6 => zI v1 M6)))))))))))))))))
set_option maxHeartbeats 1000000 in
set_option maxRecDepth 20000 in
theorem ct_X12_swap (l : Launch) (hl : l.stackTraces = false) (G : zG) (t : Nat) (ht : zsh t = 12) (a1 : Int32) (a2 : Int32) (M : zM) : zMt l G Y_X12_swap 5 [.ref (G.2.1 + t), .int a1, .int a2] M (F_X12_swap t a1 a2 M) := by
  refine zMt_of (by decide +kernel) (Nat.le_of_ble_eq_true rfl) ?_
  show zEv l G Y_X12_swap 5 0 0 [(0, .ref (G.2.1 + t)), (1, .int a1), (2, .int a2)] [] M (zst (zup M t 0 0) (fun M1 => zbI (F_X12_isOne t a1 M1) (fun r1 M2 => zjo (fun  (M9 : zM) => zI 0 M9) (fun (k1 : zM → zO) => zit (r1 = 0) (k1 M2) (zbI (F_X12_isOne t a2 M2) (fun r2 M3 => zit (r2 = 0) (k1 M3) (zjo (fun  (M7 : zM) => zbI (F_X12_refuses t 1 (-99) M7) (fun r4 M8 => zI r4 M8)) (fun (k2 : zM → zO) => zit (a1 = a2) (k2 M3) (zbI (F_X12_maySwap t (zgr t 47) a1 a2 M3) (fun r3 M4 => zit (r3 = 0) (k2 M4) (zbV (F_X12_keeps t M4) (fun M5 => zck (zin a2 73) (zck (zin (M5 (zgr t 47) (zix a2)) 8) (zck (zin a1 73) (zck (zin (M5 (zgr t 47) (zix a1)) 8) (zlt ((M5 (zgr t 6) (zix (M5 (zgr t 47) (zix a2)))) - (M5 (zgr t 6) (zix (M5 (zgr t 47) (zix a1))))) (fun v1 => zbV (F_X12_swapsIn t (zgr t 47) a1 a2 M5) (fun M6 => zI v1 M6))))))))))))))))))
  refine ev_aload_n dd_X12_swap_0 0 rfl ?_
  refine ev_iconst (v := 0) dd_X12_swap_1 (by decide) ?_
  refine ev_putI gw_RX12_153 dd_X12_swap_2 ht (by decide) ?_
  refine ev_st (fun M1 => ?_)
  refine ev_aload_n dd_X12_swap_5 0 rfl ?_
  refine ev_iload_n dd_X12_swap_6 1 rfl ?_
  refine ev_callVI (As := [.int a1]) cl_RX12_346 (ct_X12_isOne l hl G t ht a1 M1) dd_X12_swap_7 ht (by decide) (Nat.le_of_ble_eq_true rfl) (Nat.le_of_ble_eq_true rfl) rfl rfl (fun r1 M2 => ?_)
  refine ev_jo (fun (k1 : zM → zO) => ∀  (M9 : zM), zEv l G Y_X12_swap 5 0 21 [] [] M9 (k1 M9)) ?_ (fun k1 hk1 => ?_)
  · intro M9
    refine ev_iconst (v := 0) dd_X12_swap_21 (by decide) ?_
    exact ev_iret dd_X12_swap_22 rfl (Nat.le_of_ble_eq_true rfl) rfl
  · refine ev_if_eq 21 dd_X12_swap_10 (by decide) ?_ ?_
    · refine ev_lv (lv' := []) [] rfl ?_
      exact hk1 _
    · refine ev_aload_n dd_X12_swap_13 0 rfl ?_
      refine ev_iload_n dd_X12_swap_14 2 rfl ?_
      refine ev_callVI (As := [.int a2]) cl_RX12_346 (ct_X12_isOne l hl G t ht a2 M2) dd_X12_swap_15 ht (by decide) (Nat.le_of_ble_eq_true rfl) (Nat.le_of_ble_eq_true rfl) rfl rfl (fun r2 M3 => ?_)
      refine ev_if_ne 23 dd_X12_swap_18 (by decide) ?_ ?_
      · refine ev_iload_n dd_X12_swap_23 1 rfl ?_
        refine ev_iload_n dd_X12_swap_24 2 rfl ?_
        refine ev_jo (fun (k2 : zM → zO) => ∀  (M7 : zM), zEv l G Y_X12_swap 5 0 41 [(0, .ref (G.2.1 + t))] [] M7 (k2 M7)) ?_ (fun k2 hk2 => ?_)
        · intro M7
          refine ev_aload_n dd_X12_swap_41 0 rfl ?_
          refine ev_lv (lv' := []) [] rfl ?_
          refine ev_iconst (v := 1) dd_X12_swap_42 (by decide) ?_
          refine ev_bipush (v := (-99)) dd_X12_swap_43 (by decide) ?_
          refine ev_callVI (As := [.int 1, .int (-99)]) cl_RX12_387 (ct_X12_refuses l hl G t ht 1 (-99) M7) dd_X12_swap_45 ht (by decide) (Nat.le_of_ble_eq_true rfl) (Nat.le_of_ble_eq_true rfl) rfl rfl (fun r4 M8 => ?_)
          exact ev_iret dd_X12_swap_48 rfl (Nat.le_of_ble_eq_true rfl) rfl
        · refine ev_icmp_eq 41 dd_X12_swap_25 (by decide) ?_ ?_
          · refine ev_lv (lv' := [(0, .ref (G.2.1 + t))]) [0] rfl ?_
            exact hk2 _
          · refine ev_aload_n dd_X12_swap_28 0 rfl ?_
            refine ev_aload_n dd_X12_swap_29 0 rfl ?_
            refine ev_getR gf_RX12_87 dd_X12_swap_30 ht (by decide) ?_
            refine ev_iload_n dd_X12_swap_33 1 rfl ?_
            refine ev_iload_n dd_X12_swap_34 2 rfl ?_
            refine ev_callVI (As := [.ref (G.2.1 + (zgr t 47)), .int a1, .int a2]) cl_RX12_381 (ct_X12_maySwap l hl G t ht (zgr t 47) ((zg_12_47 ht).1) a1 a2 M3) dd_X12_swap_35 ht (by decide) (Nat.le_of_ble_eq_true rfl) (Nat.le_of_ble_eq_true rfl) rfl rfl (fun r3 M4 => ?_)
            refine ev_if_ne 49 dd_X12_swap_38 (by decide) ?_ ?_
            · refine ev_aload_n dd_X12_swap_49 0 rfl ?_
              refine ev_callVV (As := []) cl_RX12_390 (ct_X12_keeps l hl G t ht M4) dd_X12_swap_50 ht (by decide) (Nat.le_of_ble_eq_true rfl) (Nat.le_of_ble_eq_true rfl) rfl rfl (fun M5 => ?_)
              refine ev_aload_n dd_X12_swap_53 0 rfl ?_
              refine ev_getR gf_RX12_20 dd_X12_swap_54 ht (by decide) ?_
              refine ev_aload_n dd_X12_swap_57 0 rfl ?_
              refine ev_getR gf_RX12_87 dd_X12_swap_58 ht (by decide) ?_
              refine ev_iload_n dd_X12_swap_61 2 rfl ?_
              refine ev_iald dd_X12_swap_62 ((zg_12_47 ht).1) ((zg_12_47 ht).2) ?_
              refine ev_iald dd_X12_swap_63 ((zg_12_6 ht).1) ((zg_12_6 ht).2) ?_
              refine ev_aload_n dd_X12_swap_64 0 rfl ?_
              refine ev_getR gf_RX12_20 dd_X12_swap_65 ht (by decide) ?_
              refine ev_aload_n dd_X12_swap_68 0 rfl ?_
              refine ev_getR gf_RX12_87 dd_X12_swap_69 ht (by decide) ?_
              refine ev_iload_n dd_X12_swap_72 1 rfl ?_
              refine ev_iald dd_X12_swap_73 ((zg_12_47 ht).1) ((zg_12_47 ht).2) ?_
              refine ev_iald dd_X12_swap_74 ((zg_12_6 ht).1) ((zg_12_6 ht).2) ?_
              refine ev_isub dd_X12_swap_75 ?_
              refine ev_topi (fun v1 => ?_)
              refine ev_istore_n (i := 3) (lv' := [(0, .ref (G.2.1 + t)), (1, .int a1), (2, .int a2), (3, .int v1)]) [1, 2, 3, 0] dd_X12_swap_76 rfl (by decide) rfl ?_
              refine ev_aload_n dd_X12_swap_77 0 rfl ?_
              refine ev_aload_n dd_X12_swap_78 0 rfl ?_
              refine ev_lv (lv' := [(1, .int a1), (2, .int a2), (3, .int v1)]) [1, 2, 3] rfl ?_
              refine ev_getR gf_RX12_87 dd_X12_swap_79 ht (by decide) ?_
              refine ev_iload_n dd_X12_swap_82 0 rfl ?_
              refine ev_lv (lv' := [(2, .int a2), (3, .int v1)]) [1, 2] rfl ?_
              refine ev_iload_n dd_X12_swap_83 0 rfl ?_
              refine ev_lv (lv' := [(3, .int v1)]) [1] rfl ?_
              refine ev_callVV (As := [.ref (G.2.1 + (zgr t 47)), .int a1, .int a2]) cl_RX12_384 (ct_X12_swapsIn l hl G t ht (zgr t 47) ((zg_12_47 ht).1) a1 a2 M5) dd_X12_swap_84 ht (by decide) (Nat.le_of_ble_eq_true rfl) (Nat.le_of_ble_eq_true rfl) rfl rfl (fun M6 => ?_)
              refine ev_iload_n dd_X12_swap_87 0 rfl ?_
              refine ev_lv (lv' := []) [] rfl ?_
              exact ev_iret dd_X12_swap_88 rfl (Nat.le_of_ble_eq_true rfl) rfl
            · refine ev_lv (lv' := [(0, .ref (G.2.1 + t))]) [0] rfl ?_
              exact hk2 _
      · refine ev_lv (lv' := []) [] rfl ?_
        exact hk1 _
/-! X12_swaps -/
theorem dd_X12_swaps_0 : decode Y_X12_swaps.2.1 0 = .ok (.aload_n 0, 1) := by decide +kernel
theorem dd_X12_swaps_1 : decode Y_X12_swaps.2.1 1 = .ok (.iconst 0, 1) := by decide +kernel
theorem dd_X12_swaps_2 : decode Y_X12_swaps.2.1 2 = .ok (.putfield 153, 3) := by decide +kernel
theorem dd_X12_swaps_5 : decode Y_X12_swaps.2.1 5 = .ok (.aload_n 0, 1) := by decide +kernel
theorem dd_X12_swaps_6 : decode Y_X12_swaps.2.1 6 = .ok (.iload_n 2, 1) := by decide +kernel
theorem dd_X12_swaps_7 : decode Y_X12_swaps.2.1 7 = .ok (.iconst 2, 1) := by decide +kernel
theorem dd_X12_swaps_8 : decode Y_X12_swaps.2.1 8 = .ok (.invokevirtual 349, 3) := by decide +kernel
theorem dd_X12_swaps_11 : decode Y_X12_swaps.2.1 11 = .ok (.ifCond .eq 16, 3) := by decide +kernel
theorem dd_X12_swaps_14 : decode Y_X12_swaps.2.1 14 = .ok (.aload_n 0, 1) := by decide +kernel
theorem dd_X12_swaps_15 : decode Y_X12_swaps.2.1 15 = .ok (.aload_n 0, 1) := by decide +kernel
theorem dd_X12_swaps_16 : decode Y_X12_swaps.2.1 16 = .ok (.iload_n 1, 1) := by decide +kernel
theorem dd_X12_swaps_17 : decode Y_X12_swaps.2.1 17 = .ok (.invokevirtual 409, 3) := by decide +kernel
theorem dd_X12_swaps_20 : decode Y_X12_swaps.2.1 20 = .ok (.iconst 2, 1) := by decide +kernel
theorem dd_X12_swaps_21 : decode Y_X12_swaps.2.1 21 = .ok (.invokevirtual 312, 3) := by decide +kernel
theorem dd_X12_swaps_24 : decode Y_X12_swaps.2.1 24 = .ok (.ifCond .ne 5, 3) := by decide +kernel
theorem dd_X12_swaps_27 : decode Y_X12_swaps.2.1 27 = .ok (.iconst 0, 1) := by decide +kernel
theorem dd_X12_swaps_28 : decode Y_X12_swaps.2.1 28 = .ok (.ireturn, 1) := by decide +kernel
theorem dd_X12_swaps_29 : decode Y_X12_swaps.2.1 29 = .ok (.iload_n 2, 1) := by decide +kernel
theorem dd_X12_swaps_30 : decode Y_X12_swaps.2.1 30 = .ok (.iconst 2, 1) := by decide +kernel
theorem dd_X12_swaps_31 : decode Y_X12_swaps.2.1 31 = .ok (.if_icmp .ne 13, 3) := by decide +kernel
theorem dd_X12_swaps_34 : decode Y_X12_swaps.2.1 34 = .ok (.aload_n 0, 1) := by decide +kernel
theorem dd_X12_swaps_35 : decode Y_X12_swaps.2.1 35 = .ok (.getfield 319, 3) := by decide +kernel
theorem dd_X12_swaps_38 : decode Y_X12_swaps.2.1 38 = .ok (.aload_n 0, 1) := by decide +kernel
theorem dd_X12_swaps_39 : decode Y_X12_swaps.2.1 39 = .ok (.invokevirtual 412, 3) := by decide +kernel
theorem dd_X12_swaps_42 : decode Y_X12_swaps.2.1 42 = .ok (.isub, 1) := by decide +kernel
theorem dd_X12_swaps_43 : decode Y_X12_swaps.2.1 43 = .ok (.ireturn, 1) := by decide +kernel
theorem dd_X12_swaps_44 : decode Y_X12_swaps.2.1 44 = .ok (.aload_n 0, 1) := by decide +kernel
theorem dd_X12_swaps_45 : decode Y_X12_swaps.2.1 45 = .ok (.getfield 319, 3) := by decide +kernel
theorem dd_X12_swaps_48 : decode Y_X12_swaps.2.1 48 = .ok (.bipush 6, 2) := by decide +kernel
theorem dd_X12_swaps_50 : decode Y_X12_swaps.2.1 50 = .ok (.if_icmp .le 6, 3) := by decide +kernel
theorem dd_X12_swaps_53 : decode Y_X12_swaps.2.1 53 = .ok (.bipush (-2), 2) := by decide +kernel
theorem dd_X12_swaps_55 : decode Y_X12_swaps.2.1 55 = .ok (.ireturn, 1) := by decide +kernel
theorem dd_X12_swaps_56 : decode Y_X12_swaps.2.1 56 = .ok (.aload_n 0, 1) := by decide +kernel
theorem dd_X12_swaps_57 : decode Y_X12_swaps.2.1 57 = .ok (.dup, 1) := by decide +kernel
theorem dd_X12_swaps_58 : decode Y_X12_swaps.2.1 58 = .ok (.getfield 415, 3) := by decide +kernel
theorem dd_X12_swaps_61 : decode Y_X12_swaps.2.1 61 = .ok (.iconst 1, 1) := by decide +kernel
theorem dd_X12_swaps_62 : decode Y_X12_swaps.2.1 62 = .ok (.iadd, 1) := by decide +kernel
theorem dd_X12_swaps_63 : decode Y_X12_swaps.2.1 63 = .ok (.putfield 415, 3) := by decide +kernel
theorem dd_X12_swaps_66 : decode Y_X12_swaps.2.1 66 = .ok (.aload_n 0, 1) := by decide +kernel
theorem dd_X12_swaps_67 : decode Y_X12_swaps.2.1 67 = .ok (.aload_n 0, 1) := by decide +kernel
theorem dd_X12_swaps_68 : decode Y_X12_swaps.2.1 68 = .ok (.getfield 87, 3) := by decide +kernel
theorem dd_X12_swaps_71 : decode Y_X12_swaps.2.1 71 = .ok (.aload_n 0, 1) := by decide +kernel
theorem dd_X12_swaps_72 : decode Y_X12_swaps.2.1 72 = .ok (.getfield 90, 3) := by decide +kernel
theorem dd_X12_swaps_75 : decode Y_X12_swaps.2.1 75 = .ok (.invokevirtual 325, 3) := by decide +kernel
theorem dd_X12_swaps_78 : decode Y_X12_swaps.2.1 78 = .ok (.aload_n 0, 1) := by decide +kernel
theorem dd_X12_swaps_79 : decode Y_X12_swaps.2.1 79 = .ok (.aload_n 0, 1) := by decide +kernel
theorem dd_X12_swaps_80 : decode Y_X12_swaps.2.1 80 = .ok (.getfield 87, 3) := by decide +kernel
theorem dd_X12_swaps_83 : decode Y_X12_swaps.2.1 83 = .ok (.invokevirtual 418, 3) := by decide +kernel
theorem dd_X12_swaps_86 : decode Y_X12_swaps.2.1 86 = .ok (.istore_n 3, 1) := by decide +kernel
theorem dd_X12_swaps_87 : decode Y_X12_swaps.2.1 87 = .ok (.iload_n 3, 1) := by decide +kernel
theorem dd_X12_swaps_88 : decode Y_X12_swaps.2.1 88 = .ok (.iload_n 1, 1) := by decide +kernel
theorem dd_X12_swaps_89 : decode Y_X12_swaps.2.1 89 = .ok (.if_icmp .ne 13, 3) := by decide +kernel
theorem dd_X12_swaps_92 : decode Y_X12_swaps.2.1 92 = .ok (.iload_n 2, 1) := by decide +kernel
theorem dd_X12_swaps_93 : decode Y_X12_swaps.2.1 93 = .ok (.ifCond .ne 7, 3) := by decide +kernel
theorem dd_X12_swaps_96 : decode Y_X12_swaps.2.1 96 = .ok (.iconst 0, 1) := by decide +kernel
theorem dd_X12_swaps_97 : decode Y_X12_swaps.2.1 97 = .ok (.goto 4, 3) := by decide +kernel
theorem dd_X12_swaps_100 : decode Y_X12_swaps.2.1 100 = .ok (.iconst (-1), 1) := by decide +kernel
theorem dd_X12_swaps_101 : decode Y_X12_swaps.2.1 101 = .ok (.ireturn, 1) := by decide +kernel
theorem dd_X12_swaps_102 : decode Y_X12_swaps.2.1 102 = .ok (.aload_n 0, 1) := by decide +kernel
theorem dd_X12_swaps_103 : decode Y_X12_swaps.2.1 103 = .ok (.getfield 108, 3) := by decide +kernel
theorem dd_X12_swaps_106 : decode Y_X12_swaps.2.1 106 = .ok (.aload_n 0, 1) := by decide +kernel
theorem dd_X12_swaps_107 : decode Y_X12_swaps.2.1 107 = .ok (.aload_n 0, 1) := by decide +kernel
theorem dd_X12_swaps_108 : decode Y_X12_swaps.2.1 108 = .ok (.getfield 87, 3) := by decide +kernel
theorem dd_X12_swaps_111 : decode Y_X12_swaps.2.1 111 = .ok (.invokevirtual 421, 3) := by decide +kernel
theorem dd_X12_swaps_114 : decode Y_X12_swaps.2.1 114 = .ok (.aload_n 0, 1) := by decide +kernel
theorem dd_X12_swaps_115 : decode Y_X12_swaps.2.1 115 = .ok (.getfield 415, 3) := by decide +kernel
theorem dd_X12_swaps_118 : decode Y_X12_swaps.2.1 118 = .ok (.iastore, 1) := by decide +kernel
theorem dd_X12_swaps_119 : decode Y_X12_swaps.2.1 119 = .ok (.aload_n 0, 1) := by decide +kernel
theorem dd_X12_swaps_120 : decode Y_X12_swaps.2.1 120 = .ok (.getfield 111, 3) := by decide +kernel
theorem dd_X12_swaps_123 : decode Y_X12_swaps.2.1 123 = .ok (.iconst 0, 1) := by decide +kernel
theorem dd_X12_swaps_124 : decode Y_X12_swaps.2.1 124 = .ok (.iload_n 3, 1) := by decide +kernel
theorem dd_X12_swaps_125 : decode Y_X12_swaps.2.1 125 = .ok (.iastore, 1) := by decide +kernel
theorem dd_X12_swaps_126 : decode Y_X12_swaps.2.1 126 = .ok (.aload_n 0, 1) := by decide +kernel
theorem dd_X12_swaps_127 : decode Y_X12_swaps.2.1 127 = .ok (.getfield 114, 3) := by decide +kernel
theorem dd_X12_swaps_130 : decode Y_X12_swaps.2.1 130 = .ok (.iconst 0, 1) := by decide +kernel
theorem dd_X12_swaps_131 : decode Y_X12_swaps.2.1 131 = .ok (.iconst (-1), 1) := by decide +kernel
theorem dd_X12_swaps_132 : decode Y_X12_swaps.2.1 132 = .ok (.iastore, 1) := by decide +kernel
theorem dd_X12_swaps_133 : decode Y_X12_swaps.2.1 133 = .ok (.aload_n 0, 1) := by decide +kernel
theorem dd_X12_swaps_134 : decode Y_X12_swaps.2.1 134 = .ok (.getfield 117, 3) := by decide +kernel
theorem dd_X12_swaps_137 : decode Y_X12_swaps.2.1 137 = .ok (.iconst 0, 1) := by decide +kernel
theorem dd_X12_swaps_138 : decode Y_X12_swaps.2.1 138 = .ok (.iconst 0, 1) := by decide +kernel
theorem dd_X12_swaps_139 : decode Y_X12_swaps.2.1 139 = .ok (.iastore, 1) := by decide +kernel
theorem dd_X12_swaps_140 : decode Y_X12_swaps.2.1 140 = .ok (.iconst 1, 1) := by decide +kernel
theorem dd_X12_swaps_141 : decode Y_X12_swaps.2.1 141 = .ok (.istore 4, 2) := by decide +kernel
theorem dd_X12_swaps_143 : decode Y_X12_swaps.2.1 143 = .ok (.iconst 0, 1) := by decide +kernel
theorem dd_X12_swaps_144 : decode Y_X12_swaps.2.1 144 = .ok (.istore 5, 2) := by decide +kernel
theorem dd_X12_swaps_146 : decode Y_X12_swaps.2.1 146 = .ok (.iload 5, 2) := by decide +kernel
theorem dd_X12_swaps_148 : decode Y_X12_swaps.2.1 148 = .ok (.iload 4, 2) := by decide +kernel
theorem dd_X12_swaps_150 : decode Y_X12_swaps.2.1 150 = .ok (.if_icmp .ge 239, 3) := by decide +kernel
theorem dd_X12_swaps_153 : decode Y_X12_swaps.2.1 153 = .ok (.aload_n 0, 1) := by decide +kernel
theorem dd_X12_swaps_154 : decode Y_X12_swaps.2.1 154 = .ok (.aload_n 0, 1) := by decide +kernel
theorem dd_X12_swaps_155 : decode Y_X12_swaps.2.1 155 = .ok (.getfield 111, 3) := by decide +kernel
theorem dd_X12_swaps_158 : decode Y_X12_swaps.2.1 158 = .ok (.iload 5, 2) := by decide +kernel
theorem dd_X12_swaps_160 : decode Y_X12_swaps.2.1 160 = .ok (.iaload, 1) := by decide +kernel
theorem dd_X12_swaps_161 : decode Y_X12_swaps.2.1 161 = .ok (.aload_n 0, 1) := by decide +kernel
theorem dd_X12_swaps_162 : decode Y_X12_swaps.2.1 162 = .ok (.getfield 90, 3) := by decide +kernel
theorem dd_X12_swaps_165 : decode Y_X12_swaps.2.1 165 = .ok (.invokevirtual 424, 3) := by decide +kernel
theorem dd_X12_swaps_168 : decode Y_X12_swaps.2.1 168 = .ok (.iconst 0, 1) := by decide +kernel
theorem dd_X12_swaps_169 : decode Y_X12_swaps.2.1 169 = .ok (.istore 6, 2) := by decide +kernel
theorem dd_X12_swaps_171 : decode Y_X12_swaps.2.1 171 = .ok (.iload 6, 2) := by decide +kernel
theorem dd_X12_swaps_173 : decode Y_X12_swaps.2.1 173 = .ok (.aload_n 0, 1) := by decide +kernel
theorem dd_X12_swaps_174 : decode Y_X12_swaps.2.1 174 = .ok (.getfield 319, 3) := by decide +kernel
theorem dd_X12_swaps_177 : decode Y_X12_swaps.2.1 177 = .ok (.if_icmp .ge 206, 3) := by decide +kernel
theorem dd_X12_swaps_180 : decode Y_X12_swaps.2.1 180 = .ok (.iload 6, 2) := by decide +kernel
theorem dd_X12_swaps_182 : decode Y_X12_swaps.2.1 182 = .ok (.iconst 1, 1) := by decide +kernel
theorem dd_X12_swaps_183 : decode Y_X12_swaps.2.1 183 = .ok (.iadd, 1) := by decide +kernel
theorem dd_X12_swaps_184 : decode Y_X12_swaps.2.1 184 = .ok (.istore 7, 2) := by decide +kernel
theorem dd_X12_swaps_186 : decode Y_X12_swaps.2.1 186 = .ok (.iload 7, 2) := by decide +kernel
theorem dd_X12_swaps_188 : decode Y_X12_swaps.2.1 188 = .ok (.aload_n 0, 1) := by decide +kernel
theorem dd_X12_swaps_189 : decode Y_X12_swaps.2.1 189 = .ok (.getfield 319, 3) := by decide +kernel
theorem dd_X12_swaps_192 : decode Y_X12_swaps.2.1 192 = .ok (.if_icmp .ge 185, 3) := by decide +kernel
theorem dd_X12_swaps_195 : decode Y_X12_swaps.2.1 195 = .ok (.aload_n 0, 1) := by decide +kernel
theorem dd_X12_swaps_196 : decode Y_X12_swaps.2.1 196 = .ok (.aload_n 0, 1) := by decide +kernel
theorem dd_X12_swaps_197 : decode Y_X12_swaps.2.1 197 = .ok (.getfield 90, 3) := by decide +kernel
theorem dd_X12_swaps_200 : decode Y_X12_swaps.2.1 200 = .ok (.iload 6, 2) := by decide +kernel
theorem dd_X12_swaps_202 : decode Y_X12_swaps.2.1 202 = .ok (.iload 7, 2) := by decide +kernel
theorem dd_X12_swaps_204 : decode Y_X12_swaps.2.1 204 = .ok (.invokevirtual 381, 3) := by decide +kernel
theorem dd_X12_swaps_207 : decode Y_X12_swaps.2.1 207 = .ok (.ifCond .ne 6, 3) := by decide +kernel
theorem dd_X12_swaps_210 : decode Y_X12_swaps.2.1 210 = .ok (.goto 161, 3) := by decide +kernel
theorem dd_X12_swaps_213 : decode Y_X12_swaps.2.1 213 = .ok (.aload_n 0, 1) := by decide +kernel
theorem dd_X12_swaps_214 : decode Y_X12_swaps.2.1 214 = .ok (.aload_n 0, 1) := by decide +kernel
theorem dd_X12_swaps_215 : decode Y_X12_swaps.2.1 215 = .ok (.getfield 90, 3) := by decide +kernel
theorem dd_X12_swaps_218 : decode Y_X12_swaps.2.1 218 = .ok (.iload 6, 2) := by decide +kernel
theorem dd_X12_swaps_220 : decode Y_X12_swaps.2.1 220 = .ok (.iload 7, 2) := by decide +kernel
theorem dd_X12_swaps_222 : decode Y_X12_swaps.2.1 222 = .ok (.invokevirtual 377, 3) := by decide +kernel
theorem dd_X12_swaps_225 : decode Y_X12_swaps.2.1 225 = .ok (.aload_n 0, 1) := by decide +kernel
theorem dd_X12_swaps_226 : decode Y_X12_swaps.2.1 226 = .ok (.aload_n 0, 1) := by decide +kernel
theorem dd_X12_swaps_227 : decode Y_X12_swaps.2.1 227 = .ok (.getfield 90, 3) := by decide +kernel
theorem dd_X12_swaps_230 : decode Y_X12_swaps.2.1 230 = .ok (.invokevirtual 418, 3) := by decide +kernel
theorem dd_X12_swaps_233 : decode Y_X12_swaps.2.1 233 = .ok (.istore 8, 2) := by decide +kernel
theorem dd_X12_swaps_235 : decode Y_X12_swaps.2.1 235 = .ok (.aload_n 0, 1) := by decide +kernel
theorem dd_X12_swaps_236 : decode Y_X12_swaps.2.1 236 = .ok (.aload_n 0, 1) := by decide +kernel
theorem dd_X12_swaps_237 : decode Y_X12_swaps.2.1 237 = .ok (.getfield 90, 3) := by decide +kernel
theorem dd_X12_swaps_240 : decode Y_X12_swaps.2.1 240 = .ok (.invokevirtual 421, 3) := by decide +kernel
theorem dd_X12_swaps_243 : decode Y_X12_swaps.2.1 243 = .ok (.istore 9, 2) := by decide +kernel
theorem dd_X12_swaps_245 : decode Y_X12_swaps.2.1 245 = .ok (.aload_n 0, 1) := by decide +kernel
theorem dd_X12_swaps_246 : decode Y_X12_swaps.2.1 246 = .ok (.aload_n 0, 1) := by decide +kernel
theorem dd_X12_swaps_247 : decode Y_X12_swaps.2.1 247 = .ok (.getfield 90, 3) := by decide +kernel
theorem dd_X12_swaps_250 : decode Y_X12_swaps.2.1 250 = .ok (.iload 6, 2) := by decide +kernel
theorem dd_X12_swaps_252 : decode Y_X12_swaps.2.1 252 = .ok (.iload 7, 2) := by decide +kernel
theorem dd_X12_swaps_254 : decode Y_X12_swaps.2.1 254 = .ok (.invokevirtual 377, 3) := by decide +kernel
theorem dd_X12_swaps_257 : decode Y_X12_swaps.2.1 257 = .ok (.aload_n 0, 1) := by decide +kernel
theorem dd_X12_swaps_258 : decode Y_X12_swaps.2.1 258 = .ok (.getfield 108, 3) := by decide +kernel
theorem dd_X12_swaps_261 : decode Y_X12_swaps.2.1 261 = .ok (.iload 9, 2) := by decide +kernel
theorem dd_X12_swaps_263 : decode Y_X12_swaps.2.1 263 = .ok (.iaload, 1) := by decide +kernel
theorem dd_X12_swaps_264 : decode Y_X12_swaps.2.1 264 = .ok (.aload_n 0, 1) := by decide +kernel
theorem dd_X12_swaps_265 : decode Y_X12_swaps.2.1 265 = .ok (.getfield 415, 3) := by decide +kernel
theorem dd_X12_swaps_268 : decode Y_X12_swaps.2.1 268 = .ok (.if_icmp .ne 6, 3) := by decide +kernel
theorem dd_X12_swaps_271 : decode Y_X12_swaps.2.1 271 = .ok (.goto 100, 3) := by decide +kernel
theorem dd_X12_swaps_274 : decode Y_X12_swaps.2.1 274 = .ok (.aload_n 0, 1) := by decide +kernel
theorem dd_X12_swaps_275 : decode Y_X12_swaps.2.1 275 = .ok (.getfield 108, 3) := by decide +kernel
theorem dd_X12_swaps_278 : decode Y_X12_swaps.2.1 278 = .ok (.iload 9, 2) := by decide +kernel
theorem dd_X12_swaps_280 : decode Y_X12_swaps.2.1 280 = .ok (.aload_n 0, 1) := by decide +kernel
theorem dd_X12_swaps_281 : decode Y_X12_swaps.2.1 281 = .ok (.getfield 415, 3) := by decide +kernel
theorem dd_X12_swaps_284 : decode Y_X12_swaps.2.1 284 = .ok (.iastore, 1) := by decide +kernel
theorem dd_X12_swaps_285 : decode Y_X12_swaps.2.1 285 = .ok (.aload_n 0, 1) := by decide +kernel
theorem dd_X12_swaps_286 : decode Y_X12_swaps.2.1 286 = .ok (.getfield 111, 3) := by decide +kernel
theorem dd_X12_swaps_289 : decode Y_X12_swaps.2.1 289 = .ok (.iload 4, 2) := by decide +kernel
theorem dd_X12_swaps_291 : decode Y_X12_swaps.2.1 291 = .ok (.iload 8, 2) := by decide +kernel
theorem dd_X12_swaps_293 : decode Y_X12_swaps.2.1 293 = .ok (.iastore, 1) := by decide +kernel
theorem dd_X12_swaps_294 : decode Y_X12_swaps.2.1 294 = .ok (.aload_n 0, 1) := by decide +kernel
theorem dd_X12_swaps_295 : decode Y_X12_swaps.2.1 295 = .ok (.getfield 114, 3) := by decide +kernel
theorem dd_X12_swaps_298 : decode Y_X12_swaps.2.1 298 = .ok (.iload 4, 2) := by decide +kernel
theorem dd_X12_swaps_300 : decode Y_X12_swaps.2.1 300 = .ok (.iload 5, 2) := by decide +kernel
theorem dd_X12_swaps_302 : decode Y_X12_swaps.2.1 302 = .ok (.ifCond .ne 14, 3) := by decide +kernel
theorem dd_X12_swaps_305 : decode Y_X12_swaps.2.1 305 = .ok (.bipush 10, 2) := by decide +kernel
theorem dd_X12_swaps_307 : decode Y_X12_swaps.2.1 307 = .ok (.iload 6, 2) := by decide +kernel
theorem dd_X12_swaps_309 : decode Y_X12_swaps.2.1 309 = .ok (.imul, 1) := by decide +kernel
theorem dd_X12_swaps_310 : decode Y_X12_swaps.2.1 310 = .ok (.iload 7, 2) := by decide +kernel
theorem dd_X12_swaps_312 : decode Y_X12_swaps.2.1 312 = .ok (.iadd, 1) := by decide +kernel
theorem dd_X12_swaps_313 : decode Y_X12_swaps.2.1 313 = .ok (.goto 10, 3) := by decide +kernel
theorem dd_X12_swaps_316 : decode Y_X12_swaps.2.1 316 = .ok (.aload_n 0, 1) := by decide +kernel
theorem dd_X12_swaps_317 : decode Y_X12_swaps.2.1 317 = .ok (.getfield 114, 3) := by decide +kernel
theorem dd_X12_swaps_320 : decode Y_X12_swaps.2.1 320 = .ok (.iload 5, 2) := by decide +kernel
theorem dd_X12_swaps_322 : decode Y_X12_swaps.2.1 322 = .ok (.iaload, 1) := by decide +kernel
theorem dd_X12_swaps_323 : decode Y_X12_swaps.2.1 323 = .ok (.iastore, 1) := by decide +kernel
theorem dd_X12_swaps_324 : decode Y_X12_swaps.2.1 324 = .ok (.aload_n 0, 1) := by decide +kernel
theorem dd_X12_swaps_325 : decode Y_X12_swaps.2.1 325 = .ok (.getfield 117, 3) := by decide +kernel
theorem dd_X12_swaps_328 : decode Y_X12_swaps.2.1 328 = .ok (.iload 4, 2) := by decide +kernel
theorem dd_X12_swaps_330 : decode Y_X12_swaps.2.1 330 = .ok (.aload_n 0, 1) := by decide +kernel
theorem dd_X12_swaps_331 : decode Y_X12_swaps.2.1 331 = .ok (.getfield 117, 3) := by decide +kernel
theorem dd_X12_swaps_334 : decode Y_X12_swaps.2.1 334 = .ok (.iload 5, 2) := by decide +kernel
theorem dd_X12_swaps_336 : decode Y_X12_swaps.2.1 336 = .ok (.iaload, 1) := by decide +kernel
theorem dd_X12_swaps_337 : decode Y_X12_swaps.2.1 337 = .ok (.iconst 1, 1) := by decide +kernel
theorem dd_X12_swaps_338 : decode Y_X12_swaps.2.1 338 = .ok (.iadd, 1) := by decide +kernel
theorem dd_X12_swaps_339 : decode Y_X12_swaps.2.1 339 = .ok (.iastore, 1) := by decide +kernel
theorem dd_X12_swaps_340 : decode Y_X12_swaps.2.1 340 = .ok (.iload 8, 2) := by decide +kernel
theorem dd_X12_swaps_342 : decode Y_X12_swaps.2.1 342 = .ok (.iload_n 1, 1) := by decide +kernel
theorem dd_X12_swaps_343 : decode Y_X12_swaps.2.1 343 = .ok (.if_icmp .ne 25, 3) := by decide +kernel
theorem dd_X12_swaps_346 : decode Y_X12_swaps.2.1 346 = .ok (.iload_n 2, 1) := by decide +kernel
theorem dd_X12_swaps_347 : decode Y_X12_swaps.2.1 347 = .ok (.ifCond .ne 13, 3) := by decide +kernel
theorem dd_X12_swaps_350 : decode Y_X12_swaps.2.1 350 = .ok (.aload_n 0, 1) := by decide +kernel
theorem dd_X12_swaps_351 : decode Y_X12_swaps.2.1 351 = .ok (.getfield 117, 3) := by decide +kernel
theorem dd_X12_swaps_354 : decode Y_X12_swaps.2.1 354 = .ok (.iload 4, 2) := by decide +kernel
theorem dd_X12_swaps_356 : decode Y_X12_swaps.2.1 356 = .ok (.iaload, 1) := by decide +kernel
theorem dd_X12_swaps_357 : decode Y_X12_swaps.2.1 357 = .ok (.goto 10, 3) := by decide +kernel
theorem dd_X12_swaps_360 : decode Y_X12_swaps.2.1 360 = .ok (.aload_n 0, 1) := by decide +kernel
theorem dd_X12_swaps_361 : decode Y_X12_swaps.2.1 361 = .ok (.getfield 114, 3) := by decide +kernel
theorem dd_X12_swaps_364 : decode Y_X12_swaps.2.1 364 = .ok (.iload 4, 2) := by decide +kernel
theorem dd_X12_swaps_366 : decode Y_X12_swaps.2.1 366 = .ok (.iaload, 1) := by decide +kernel
theorem dd_X12_swaps_367 : decode Y_X12_swaps.2.1 367 = .ok (.ireturn, 1) := by decide +kernel
theorem dd_X12_swaps_368 : decode Y_X12_swaps.2.1 368 = .ok (.iinc 4 1, 3) := by decide +kernel
theorem dd_X12_swaps_371 : decode Y_X12_swaps.2.1 371 = .ok (.iinc 7 1, 3) := by decide +kernel
theorem dd_X12_swaps_374 : decode Y_X12_swaps.2.1 374 = .ok (.goto (-188), 3) := by decide +kernel
theorem dd_X12_swaps_377 : decode Y_X12_swaps.2.1 377 = .ok (.iinc 6 1, 3) := by decide +kernel
theorem dd_X12_swaps_380 : decode Y_X12_swaps.2.1 380 = .ok (.goto (-209), 3) := by decide +kernel
theorem dd_X12_swaps_383 : decode Y_X12_swaps.2.1 383 = .ok (.iinc 5 1, 3) := by decide +kernel
theorem dd_X12_swaps_386 : decode Y_X12_swaps.2.1 386 = .ok (.goto (-240), 3) := by decide +kernel
theorem dd_X12_swaps_389 : decode Y_X12_swaps.2.1 389 = .ok (.iconst (-1), 1) := by decide +kernel
theorem dd_X12_swaps_390 : decode Y_X12_swaps.2.1 390 = .ok (.ireturn, 1) := by decide +kernel
def F_X12_swaps_L186 (x0 : Nat) (x1 : Int32) (x2 : Int32) (x5 : Int32) (x6 : Int32) (K377 : Int32 → zM → zO) : Nat → Int32 → Int32 → zM → zO
  | 0, _, _, _ => none
  | n + 1, x4, x7, M => zit ((M x0 1) ≤ x7) (K377 x4 M) (zbI (F_X12_maySwap x0 (zgr x0 48) x6 x7 M) (fun r6 M14 => zjo (fun (w3 : Int32) (M25 : zM) => F_X12_swaps_L186 x0 x1 x2 x5 x6 K377 n w3 (x7 + 1) M25) (fun (k2 : Int32 → zM → zO) => zit (r6 = 0) (k2 x4 M14) (zbV (F_X12_changes x0 (zgr x0 48) x6 x7 M14) (fun M15 => zbI (F_X12_codeOf x0 (zgr x0 48) M15) (fun r7 M16 => zbI (F_X12_rankOf x0 (zgr x0 48) M16) (fun r8 M17 => zbV (F_X12_changes x0 (zgr x0 48) x6 x7 M17) (fun M18 => zck (zin r8 720) (zit ((M18 (zgr x0 55) (zix r8)) = (M18 x0 60)) (k2 x4 M18) (zck (zin r8 720) (zst (zup M18 (zgr x0 55) (zix r8) (M18 x0 60)) (fun M19 => zck (zin x4 720) (zst (zup M19 (zgr x0 56) (zix x4) r7) (fun M20 => zjo (fun (w1 : Int32) (M21 : zM) => zck (zin x4 720) (zst (zup M21 (zgr x0 57) (zix x4) w1) (fun M22 => zck (zin x5 720) (zck (zin x4 720) (zst (zup M22 (zgr x0 58) (zix x4) ((M22 (zgr x0 58) (zix x5)) + 1)) (fun M23 => zit (r7 = x1) (zjo (fun (w2 : Int32) (M24 : zM) => zI w2 M24) (fun (k4 : Int32 → zM → zO) => zit (x2 = 0) (zck (zin x4 720) (k4 (M23 (zgr x0 58) (zix x4)) M23)) (zck (zin x4 720) (k4 (M23 (zgr x0 57) (zix x4)) M23)))) (k2 (x4 + 1) M23))))))) (fun (k3 : Int32 → zM → zO) => zit (x5 = 0) (k3 ((10 * x6) + x7) M20) (zck (zin x5 720) (k3 (M20 (zgr x0 57) (zix x5)) M20)))))))))))))))))
def F_X12_swaps_L171 (x0 : Nat) (x1 : Int32) (x2 : Int32) (x5 : Int32) (K383 : Int32 → zM → zO) : Nat → Int32 → Int32 → zM → zO
  | 0, _, _, _ => none
  | n + 1, x4, x6, M => zit ((M x0 1) ≤ x6) (K383 x4 M) (zlt (x6 + 1) (fun v1 => F_X12_swaps_L186 x0 x1 x2 x5 x6 (fun (y1 : Int32) (M26 : zM) => F_X12_swaps_L171 x0 x1 x2 x5 K383 n y1 (x6 + 1) M26) zN x4 v1 M))
def F_X12_swaps_L146 (x0 : Nat) (x1 : Int32) (x2 : Int32) (K389 : zM → zO) : Nat → Int32 → Int32 → zM → zO
  | 0, _, _, _ => none
  | n + 1, x4, x5, M => zit (x4 ≤ x5) (K389 M) (zck (zin x5 720) (zbV (F_X12_namesOf x0 (M (zgr x0 56) (zix x5)) (zgr x0 48) M) (fun M13 => F_X12_swaps_L171 x0 x1 x2 x5 (fun (y2 : Int32) (M27 : zM) => F_X12_swaps_L146 x0 x1 x2 K389 n y2 (x5 + 1) M27) zN x4 0 M13)))
def F_X12_swaps (t : Nat) (a1 : Int32) (a2 : Int32) (M : zM) : zO := zst (zup M t 0 0) (fun M1 => zbI (F_X12_isWhat t a2 2 M1) (fun r1 M2 => zjo (fun  (M31 : zM) => zI 0 M31) (fun (k1 : zM → zO) => zit (r1 = 0) (k1 M2) (zbI (F_X12_isArrangement t a1 M2) (fun r2 M3 => zbI (F_X12_right t r2 2 M3) (fun r3 M4 => zit (r3 = 0) (k1 M4) (zit (a2 = 2) (zbI (F_X12_rings t M4) (fun r9 M30 => zI ((M4 t 1) - r9) M30)) (zit ((M4 t 1) ≤ 6) (zst (zup M4 t 60 ((M4 t 60) + 1)) (fun M5 => zbV (F_X12_copies t (zgr t 47) (zgr t 48) M5) (fun M6 => zbI (F_X12_codeOf t (zgr t 47) M6) (fun r4 M7 => zit (r4 = a1) (zjo (fun (w4 : Int32) (M29 : zM) => zI w4 M29) (fun (k5 : Int32 → zM → zO) => zit (a2 = 0) (k5 0 M7) (k5 (-1) M7))) (zbI (F_X12_rankOf t (zgr t 47) M7) (fun r5 M8 => zck (zin r5 720) (zst (zup M8 (zgr t 55) (zix r5) (M8 t 60)) (fun M9 => zck (zin 0 720) (zst (zup M9 (zgr t 56) (zix 0) r4) (fun M10 => zck (zin 0 720) (zst (zup M10 (zgr t 57) (zix 0) (-1)) (fun M11 => zck (zin 0 720) (zst (zup M11 (zgr t 58) (zix 0) 0) (fun M12 => F_X12_swaps_L146 t a1 a2 (fun  (M28 : zM) => zI (-1) M28) zN 1 0 M12)))))))))))))) (zI (-2) M4)))))))))
set_option maxHeartbeats 1000000 in
set_option maxRecDepth 20000 in
theorem ct_X12_swaps_L186 (l : Launch) (hl : l.stackTraces = false) (G : zG) (x0 : Nat) (hx0 : zsh x0 = 12) (x1 : Int32) (x2 : Int32) (x5 : Int32) (x6 : Int32) (K377 : Int32 → zM → zO) (hK377 : ∀ (x4 : Int32) (M : zM), zEv l G Y_X12_swaps 5 0 377 [(0, .ref (G.2.1 + x0)), (1, .int x1), (2, .int x2), (4, .int x4), (5, .int x5), (6, .int x6)] [] M (K377 x4 M)) : ∀ (n : Nat) (x4 : Int32) (x7 : Int32) (M : zM), zEv l G Y_X12_swaps 5 0 186 [(0, .ref (G.2.1 + x0)), (1, .int x1), (2, .int x2), (4, .int x4), (5, .int x5), (6, .int x6), (7, .int x7)] [] M (F_X12_swaps_L186 x0 x1 x2 x5 x6 K377 n x4 x7 M) := by
  intro n
  induction n with
  | zero => intro x4 x7 M; exact ev_none
  | succ n ih =>
    intro x4 x7 M
    show zEv l G Y_X12_swaps 5 0 186 [(0, .ref (G.2.1 + x0)), (1, .int x1), (2, .int x2), (4, .int x4), (5, .int x5), (6, .int x6), (7, .int x7)] [] M (zit ((M x0 1) ≤ x7) (K377 x4 M) (zbI (F_X12_maySwap x0 (zgr x0 48) x6 x7 M) (fun r6 M14 => zjo (fun (w3 : Int32) (M25 : zM) => F_X12_swaps_L186 x0 x1 x2 x5 x6 K377 n w3 (x7 + 1) M25) (fun (k2 : Int32 → zM → zO) => zit (r6 = 0) (k2 x4 M14) (zbV (F_X12_changes x0 (zgr x0 48) x6 x7 M14) (fun M15 => zbI (F_X12_codeOf x0 (zgr x0 48) M15) (fun r7 M16 => zbI (F_X12_rankOf x0 (zgr x0 48) M16) (fun r8 M17 => zbV (F_X12_changes x0 (zgr x0 48) x6 x7 M17) (fun M18 => zck (zin r8 720) (zit ((M18 (zgr x0 55) (zix r8)) = (M18 x0 60)) (k2 x4 M18) (zck (zin r8 720) (zst (zup M18 (zgr x0 55) (zix r8) (M18 x0 60)) (fun M19 => zck (zin x4 720) (zst (zup M19 (zgr x0 56) (zix x4) r7) (fun M20 => zjo (fun (w1 : Int32) (M21 : zM) => zck (zin x4 720) (zst (zup M21 (zgr x0 57) (zix x4) w1) (fun M22 => zck (zin x5 720) (zck (zin x4 720) (zst (zup M22 (zgr x0 58) (zix x4) ((M22 (zgr x0 58) (zix x5)) + 1)) (fun M23 => zit (r7 = x1) (zjo (fun (w2 : Int32) (M24 : zM) => zI w2 M24) (fun (k4 : Int32 → zM → zO) => zit (x2 = 0) (zck (zin x4 720) (k4 (M23 (zgr x0 58) (zix x4)) M23)) (zck (zin x4 720) (k4 (M23 (zgr x0 57) (zix x4)) M23)))) (k2 (x4 + 1) M23))))))) (fun (k3 : Int32 → zM → zO) => zit (x5 = 0) (k3 ((10 * x6) + x7) M20) (zck (zin x5 720) (k3 (M20 (zgr x0 57) (zix x5)) M20))))))))))))))))))
    refine ev_iload dd_X12_swaps_186 6 rfl ?_
    refine ev_aload_n dd_X12_swaps_188 0 rfl ?_
    refine ev_getI gf_RX12_319 dd_X12_swaps_189 hx0 (by decide) ?_
    refine ev_icmp_ge 377 dd_X12_swaps_192 (by decide) ?_ ?_
    · refine ev_lv (lv' := [(0, .ref (G.2.1 + x0)), (1, .int x1), (2, .int x2), (4, .int x4), (5, .int x5), (6, .int x6)]) [0, 1, 2, 3, 4, 5] rfl ?_
      exact hK377 _ _
    · refine ev_aload_n dd_X12_swaps_195 0 rfl ?_
      refine ev_aload_n dd_X12_swaps_196 0 rfl ?_
      refine ev_getR gf_RX12_90 dd_X12_swaps_197 hx0 (by decide) ?_
      refine ev_iload dd_X12_swaps_200 5 rfl ?_
      refine ev_iload dd_X12_swaps_202 6 rfl ?_
      refine ev_callVI (As := [.ref (G.2.1 + (zgr x0 48)), .int x6, .int x7]) cl_RX12_381 (ct_X12_maySwap l hl G x0 hx0 (zgr x0 48) ((zg_12_48 hx0).1) x6 x7 M) dd_X12_swaps_204 hx0 (by decide) (Nat.le_of_ble_eq_true rfl) (Nat.le_of_ble_eq_true rfl) rfl rfl (fun r6 M14 => ?_)
      refine ev_jo (fun (k2 : Int32 → zM → zO) => ∀ (w3 : Int32) (M25 : zM), zEv l G Y_X12_swaps 5 0 371 [(0, .ref (G.2.1 + x0)), (1, .int x1), (2, .int x2), (4, .int w3), (5, .int x5), (6, .int x6), (7, .int x7)] [] M25 (k2 w3 M25)) ?_ (fun k2 hk2 => ?_)
      · intro w3 M25
        refine ev_iinc (j := 6) (v := 1) (lv' := [(0, .ref (G.2.1 + x0)), (1, .int x1), (2, .int x2), (4, .int w3), (5, .int x5), (6, .int x6), (7, .int (x7 + 1))]) [1, 2, 3, 4, 5, 6, 0] dd_X12_swaps_371 rfl (by decide) (by decide) rfl ?_
        refine ev_goto 186 dd_X12_swaps_374 (by decide) ?_
        exact ih _ _ _
      · refine ev_if_ne 213 dd_X12_swaps_207 (by decide) ?_ ?_
        · refine ev_aload_n dd_X12_swaps_213 0 rfl ?_
          refine ev_aload_n dd_X12_swaps_214 0 rfl ?_
          refine ev_getR gf_RX12_90 dd_X12_swaps_215 hx0 (by decide) ?_
          refine ev_iload dd_X12_swaps_218 5 rfl ?_
          refine ev_iload dd_X12_swaps_220 6 rfl ?_
          refine ev_callVV (As := [.ref (G.2.1 + (zgr x0 48)), .int x6, .int x7]) cl_RX12_377 (ct_X12_changes l hl G x0 hx0 (zgr x0 48) ((zg_12_48 hx0).1) x6 x7 M14) dd_X12_swaps_222 hx0 (by decide) (Nat.le_of_ble_eq_true rfl) (Nat.le_of_ble_eq_true rfl) rfl rfl (fun M15 => ?_)
          refine ev_aload_n dd_X12_swaps_225 0 rfl ?_
          refine ev_aload_n dd_X12_swaps_226 0 rfl ?_
          refine ev_getR gf_RX12_90 dd_X12_swaps_227 hx0 (by decide) ?_
          refine ev_callVI (As := [.ref (G.2.1 + (zgr x0 48))]) cl_RX12_418 (ct_X12_codeOf l hl G x0 hx0 (zgr x0 48) ((zg_12_48 hx0).1) M15) dd_X12_swaps_230 hx0 (by decide) (Nat.le_of_ble_eq_true rfl) (Nat.le_of_ble_eq_true rfl) rfl rfl (fun r7 M16 => ?_)
          refine ev_istore (i := 8) (lv' := [(0, .ref (G.2.1 + x0)), (1, .int x1), (2, .int x2), (4, .int x4), (5, .int x5), (6, .int x6), (7, .int x7), (8, .int r7)]) [1, 2, 3, 4, 5, 6, 7, 0] dd_X12_swaps_233 (by decide) rfl ?_
          refine ev_aload_n dd_X12_swaps_235 0 rfl ?_
          refine ev_aload_n dd_X12_swaps_236 0 rfl ?_
          refine ev_getR gf_RX12_90 dd_X12_swaps_237 hx0 (by decide) ?_
          refine ev_callVI (As := [.ref (G.2.1 + (zgr x0 48))]) cl_RX12_421 (ct_X12_rankOf l hl G x0 hx0 (zgr x0 48) ((zg_12_48 hx0).1) M16) dd_X12_swaps_240 hx0 (by decide) (Nat.le_of_ble_eq_true rfl) (Nat.le_of_ble_eq_true rfl) rfl rfl (fun r8 M17 => ?_)
          refine ev_istore (i := 9) (lv' := [(0, .ref (G.2.1 + x0)), (1, .int x1), (2, .int x2), (4, .int x4), (5, .int x5), (6, .int x6), (7, .int x7), (8, .int r7), (9, .int r8)]) [1, 2, 3, 4, 5, 6, 7, 8, 0] dd_X12_swaps_243 (by decide) rfl ?_
          refine ev_aload_n dd_X12_swaps_245 0 rfl ?_
          refine ev_aload_n dd_X12_swaps_246 0 rfl ?_
          refine ev_getR gf_RX12_90 dd_X12_swaps_247 hx0 (by decide) ?_
          refine ev_iload dd_X12_swaps_250 5 rfl ?_
          refine ev_iload dd_X12_swaps_252 6 rfl ?_
          refine ev_callVV (As := [.ref (G.2.1 + (zgr x0 48)), .int x6, .int x7]) cl_RX12_377 (ct_X12_changes l hl G x0 hx0 (zgr x0 48) ((zg_12_48 hx0).1) x6 x7 M17) dd_X12_swaps_254 hx0 (by decide) (Nat.le_of_ble_eq_true rfl) (Nat.le_of_ble_eq_true rfl) rfl rfl (fun M18 => ?_)
          refine ev_aload_n dd_X12_swaps_257 0 rfl ?_
          refine ev_getR gf_RX12_108 dd_X12_swaps_258 hx0 (by decide) ?_
          refine ev_iload dd_X12_swaps_261 8 rfl ?_
          refine ev_iald dd_X12_swaps_263 ((zg_12_55 hx0).1) ((zg_12_55 hx0).2) ?_
          refine ev_aload_n dd_X12_swaps_264 0 rfl ?_
          refine ev_getI gf_RX12_415 dd_X12_swaps_265 hx0 (by decide) ?_
          refine ev_icmp_ne 274 dd_X12_swaps_268 (by decide) ?_ ?_
          · refine ev_aload_n dd_X12_swaps_274 0 rfl ?_
            refine ev_getR gf_RX12_108 dd_X12_swaps_275 hx0 (by decide) ?_
            refine ev_iload dd_X12_swaps_278 8 rfl ?_
            refine ev_lv (lv' := [(0, .ref (G.2.1 + x0)), (1, .int x1), (2, .int x2), (4, .int x4), (5, .int x5), (6, .int x6), (7, .int x7), (8, .int r7)]) [0, 1, 2, 3, 4, 5, 6, 7] rfl ?_
            refine ev_aload_n dd_X12_swaps_280 0 rfl ?_
            refine ev_getI gf_RX12_415 dd_X12_swaps_281 hx0 (by decide) ?_
            refine ev_iast dd_X12_swaps_284 ((zg_12_55 hx0).1) ((zg_12_55 hx0).2) ?_
            refine ev_st (fun M19 => ?_)
            refine ev_aload_n dd_X12_swaps_285 0 rfl ?_
            refine ev_getR gf_RX12_111 dd_X12_swaps_286 hx0 (by decide) ?_
            refine ev_iload dd_X12_swaps_289 3 rfl ?_
            refine ev_iload dd_X12_swaps_291 7 rfl ?_
            refine ev_iast dd_X12_swaps_293 ((zg_12_56 hx0).1) ((zg_12_56 hx0).2) ?_
            refine ev_st (fun M20 => ?_)
            refine ev_aload_n dd_X12_swaps_294 0 rfl ?_
            refine ev_getR gf_RX12_114 dd_X12_swaps_295 hx0 (by decide) ?_
            refine ev_iload dd_X12_swaps_298 3 rfl ?_
            refine ev_iload dd_X12_swaps_300 4 rfl ?_
            refine ev_jo (fun (k3 : Int32 → zM → zO) => ∀ (w1 : Int32) (M21 : zM), zEv l G Y_X12_swaps 5 0 323 [(0, .ref (G.2.1 + x0)), (1, .int x1), (2, .int x2), (4, .int x4), (5, .int x5), (6, .int x6), (7, .int x7), (8, .int r7)] [.int w1, .int x4, .ref (G.2.1 + (zgr x0 57))] M21 (k3 w1 M21)) ?_ (fun k3 hk3 => ?_)
            · intro w1 M21
              refine ev_iast dd_X12_swaps_323 ((zg_12_57 hx0).1) ((zg_12_57 hx0).2) ?_
              refine ev_st (fun M22 => ?_)
              refine ev_aload_n dd_X12_swaps_324 0 rfl ?_
              refine ev_getR gf_RX12_117 dd_X12_swaps_325 hx0 (by decide) ?_
              refine ev_iload dd_X12_swaps_328 3 rfl ?_
              refine ev_aload_n dd_X12_swaps_330 0 rfl ?_
              refine ev_getR gf_RX12_117 dd_X12_swaps_331 hx0 (by decide) ?_
              refine ev_iload dd_X12_swaps_334 4 rfl ?_
              refine ev_iald dd_X12_swaps_336 ((zg_12_58 hx0).1) ((zg_12_58 hx0).2) ?_
              refine ev_iconst (v := 1) dd_X12_swaps_337 (by decide) ?_
              refine ev_iadd dd_X12_swaps_338 ?_
              refine ev_iast dd_X12_swaps_339 ((zg_12_58 hx0).1) ((zg_12_58 hx0).2) ?_
              refine ev_st (fun M23 => ?_)
              refine ev_iload dd_X12_swaps_340 7 rfl ?_
              refine ev_lv (lv' := [(0, .ref (G.2.1 + x0)), (1, .int x1), (2, .int x2), (4, .int x4), (5, .int x5), (6, .int x6), (7, .int x7)]) [0, 1, 2, 3, 4, 5, 6] rfl ?_
              refine ev_iload_n dd_X12_swaps_342 1 rfl ?_
              refine ev_icmp_ne 368 dd_X12_swaps_343 (by decide) ?_ ?_
              · refine ev_iinc (j := 3) (v := 1) (lv' := [(0, .ref (G.2.1 + x0)), (1, .int x1), (2, .int x2), (4, .int (x4 + 1)), (5, .int x5), (6, .int x6), (7, .int x7)]) [1, 2, 3, 0, 4, 5, 6] dd_X12_swaps_368 rfl (by decide) (by decide) rfl ?_
                exact hk2 _ _
              · refine ev_lv (lv' := [(0, .ref (G.2.1 + x0)), (2, .int x2), (4, .int x4)]) [0, 2, 3] rfl ?_
                refine ev_iload_n dd_X12_swaps_346 1 rfl ?_
                refine ev_lv (lv' := [(0, .ref (G.2.1 + x0)), (4, .int x4)]) [0, 2] rfl ?_
                refine ev_jo (fun (k4 : Int32 → zM → zO) => ∀ (w2 : Int32) (M24 : zM), zEv l G Y_X12_swaps 5 0 367 [] [.int w2] M24 (k4 w2 M24)) ?_ (fun k4 hk4 => ?_)
                · intro w2 M24
                  exact ev_iret dd_X12_swaps_367 rfl (Nat.le_of_ble_eq_true rfl) rfl
                · refine ev_if_ne 360 dd_X12_swaps_347 (by decide) ?_ ?_
                  · refine ev_aload_n dd_X12_swaps_360 0 rfl ?_
                    refine ev_lv (lv' := [(4, .int x4)]) [1] rfl ?_
                    refine ev_getR gf_RX12_114 dd_X12_swaps_361 hx0 (by decide) ?_
                    refine ev_iload dd_X12_swaps_364 0 rfl ?_
                    refine ev_lv (lv' := []) [] rfl ?_
                    refine ev_iald dd_X12_swaps_366 ((zg_12_57 hx0).1) ((zg_12_57 hx0).2) ?_
                    exact hk4 _ _
                  · refine ev_aload_n dd_X12_swaps_350 0 rfl ?_
                    refine ev_lv (lv' := [(4, .int x4)]) [1] rfl ?_
                    refine ev_getR gf_RX12_117 dd_X12_swaps_351 hx0 (by decide) ?_
                    refine ev_iload dd_X12_swaps_354 0 rfl ?_
                    refine ev_lv (lv' := []) [] rfl ?_
                    refine ev_iald dd_X12_swaps_356 ((zg_12_58 hx0).1) ((zg_12_58 hx0).2) ?_
                    refine ev_goto 367 dd_X12_swaps_357 (by decide) ?_
                    exact hk4 _ _
            · refine ev_if_ne 316 dd_X12_swaps_302 (by decide) ?_ ?_
              · refine ev_aload_n dd_X12_swaps_316 0 rfl ?_
                refine ev_getR gf_RX12_114 dd_X12_swaps_317 hx0 (by decide) ?_
                refine ev_iload dd_X12_swaps_320 4 rfl ?_
                refine ev_iald dd_X12_swaps_322 ((zg_12_57 hx0).1) ((zg_12_57 hx0).2) ?_
                exact hk3 _ _
              · refine ev_bipush (v := 10) dd_X12_swaps_305 (by decide) ?_
                refine ev_iload dd_X12_swaps_307 5 rfl ?_
                refine ev_imul dd_X12_swaps_309 ?_
                refine ev_iload dd_X12_swaps_310 6 rfl ?_
                refine ev_iadd dd_X12_swaps_312 ?_
                refine ev_goto 323 dd_X12_swaps_313 (by decide) ?_
                exact hk3 _ _
          · refine ev_lv (lv' := [(0, .ref (G.2.1 + x0)), (1, .int x1), (2, .int x2), (4, .int x4), (5, .int x5), (6, .int x6), (7, .int x7)]) [0, 1, 2, 3, 4, 5, 6] rfl ?_
            refine ev_goto 371 dd_X12_swaps_271 (by decide) ?_
            exact hk2 _ _
        · refine ev_goto 371 dd_X12_swaps_210 (by decide) ?_
          exact hk2 _ _
set_option maxHeartbeats 1000000 in
set_option maxRecDepth 20000 in
theorem ct_X12_swaps_L171 (l : Launch) (hl : l.stackTraces = false) (G : zG) (x0 : Nat) (hx0 : zsh x0 = 12) (x1 : Int32) (x2 : Int32) (x5 : Int32) (K383 : Int32 → zM → zO) (hK383 : ∀ (x4 : Int32) (M : zM), zEv l G Y_X12_swaps 5 0 383 [(0, .ref (G.2.1 + x0)), (1, .int x1), (2, .int x2), (4, .int x4), (5, .int x5)] [] M (K383 x4 M)) : ∀ (n : Nat) (x4 : Int32) (x6 : Int32) (M : zM), zEv l G Y_X12_swaps 5 0 171 [(0, .ref (G.2.1 + x0)), (1, .int x1), (2, .int x2), (4, .int x4), (5, .int x5), (6, .int x6)] [] M (F_X12_swaps_L171 x0 x1 x2 x5 K383 n x4 x6 M) := by
  intro n
  induction n with
  | zero => intro x4 x6 M; exact ev_none
  | succ n ih =>
    intro x4 x6 M
    show zEv l G Y_X12_swaps 5 0 171 [(0, .ref (G.2.1 + x0)), (1, .int x1), (2, .int x2), (4, .int x4), (5, .int x5), (6, .int x6)] [] M (zit ((M x0 1) ≤ x6) (K383 x4 M) (zlt (x6 + 1) (fun v1 => F_X12_swaps_L186 x0 x1 x2 x5 x6 (fun (y1 : Int32) (M26 : zM) => F_X12_swaps_L171 x0 x1 x2 x5 K383 n y1 (x6 + 1) M26) zN x4 v1 M)))
    refine ev_iload dd_X12_swaps_171 5 rfl ?_
    refine ev_aload_n dd_X12_swaps_173 0 rfl ?_
    refine ev_getI gf_RX12_319 dd_X12_swaps_174 hx0 (by decide) ?_
    refine ev_icmp_ge 383 dd_X12_swaps_177 (by decide) ?_ ?_
    · refine ev_lv (lv' := [(0, .ref (G.2.1 + x0)), (1, .int x1), (2, .int x2), (4, .int x4), (5, .int x5)]) [0, 1, 2, 3, 4] rfl ?_
      exact hK383 _ _
    · refine ev_iload dd_X12_swaps_180 5 rfl ?_
      refine ev_iconst (v := 1) dd_X12_swaps_182 (by decide) ?_
      refine ev_iadd dd_X12_swaps_183 ?_
      refine ev_topi (fun v1 => ?_)
      refine ev_istore (i := 7) (lv' := [(0, .ref (G.2.1 + x0)), (1, .int x1), (2, .int x2), (4, .int x4), (5, .int x5), (6, .int x6), (7, .int v1)]) [1, 2, 3, 4, 5, 6, 0] dd_X12_swaps_184 (by decide) rfl ?_
      refine ct_X12_swaps_L186 l hl G x0 hx0 x1 x2 x5 x6 _ (fun y1 M26 => ?_) zN _ _ _
      refine ev_iinc (j := 5) (v := 1) (lv' := [(0, .ref (G.2.1 + x0)), (1, .int x1), (2, .int x2), (4, .int y1), (5, .int x5), (6, .int (x6 + 1))]) [1, 2, 3, 4, 5, 0] dd_X12_swaps_377 rfl (by decide) (by decide) rfl ?_
      refine ev_goto 171 dd_X12_swaps_380 (by decide) ?_
      exact ih _ _ _
set_option maxHeartbeats 1000000 in
set_option maxRecDepth 20000 in
theorem ct_X12_swaps_L146 (l : Launch) (hl : l.stackTraces = false) (G : zG) (x0 : Nat) (hx0 : zsh x0 = 12) (x1 : Int32) (x2 : Int32) (K389 : zM → zO) (hK389 : ∀  (M : zM), zEv l G Y_X12_swaps 5 0 389 [] [] M (K389 M)) : ∀ (n : Nat) (x4 : Int32) (x5 : Int32) (M : zM), zEv l G Y_X12_swaps 5 0 146 [(0, .ref (G.2.1 + x0)), (1, .int x1), (2, .int x2), (4, .int x4), (5, .int x5)] [] M (F_X12_swaps_L146 x0 x1 x2 K389 n x4 x5 M) := by
  intro n
  induction n with
  | zero => intro x4 x5 M; exact ev_none
  | succ n ih =>
    intro x4 x5 M
    show zEv l G Y_X12_swaps 5 0 146 [(0, .ref (G.2.1 + x0)), (1, .int x1), (2, .int x2), (4, .int x4), (5, .int x5)] [] M (zit (x4 ≤ x5) (K389 M) (zck (zin x5 720) (zbV (F_X12_namesOf x0 (M (zgr x0 56) (zix x5)) (zgr x0 48) M) (fun M13 => F_X12_swaps_L171 x0 x1 x2 x5 (fun (y2 : Int32) (M27 : zM) => F_X12_swaps_L146 x0 x1 x2 K389 n y2 (x5 + 1) M27) zN x4 0 M13))))
    refine ev_iload dd_X12_swaps_146 4 rfl ?_
    refine ev_iload dd_X12_swaps_148 3 rfl ?_
    refine ev_icmp_ge 389 dd_X12_swaps_150 (by decide) ?_ ?_
    · refine ev_lv (lv' := []) [] rfl ?_
      exact hK389 _
    · refine ev_aload_n dd_X12_swaps_153 0 rfl ?_
      refine ev_aload_n dd_X12_swaps_154 0 rfl ?_
      refine ev_getR gf_RX12_111 dd_X12_swaps_155 hx0 (by decide) ?_
      refine ev_iload dd_X12_swaps_158 4 rfl ?_
      refine ev_iald dd_X12_swaps_160 ((zg_12_56 hx0).1) ((zg_12_56 hx0).2) ?_
      refine ev_aload_n dd_X12_swaps_161 0 rfl ?_
      refine ev_getR gf_RX12_90 dd_X12_swaps_162 hx0 (by decide) ?_
      refine ev_callVV (As := [.int (M (zgr x0 56) (zix x5)), .ref (G.2.1 + (zgr x0 48))]) cl_RX12_424 (ct_X12_namesOf l hl G x0 hx0 (M (zgr x0 56) (zix x5)) (zgr x0 48) ((zg_12_48 hx0).1) M) dd_X12_swaps_165 hx0 (by decide) (Nat.le_of_ble_eq_true rfl) (Nat.le_of_ble_eq_true rfl) rfl rfl (fun M13 => ?_)
      refine ev_iconst (v := 0) dd_X12_swaps_168 (by decide) ?_
      refine ev_istore (i := 6) (lv' := [(0, .ref (G.2.1 + x0)), (1, .int x1), (2, .int x2), (4, .int x4), (5, .int x5), (6, .int 0)]) [1, 2, 3, 4, 5, 0] dd_X12_swaps_169 (by decide) rfl ?_
      refine ct_X12_swaps_L171 l hl G x0 hx0 x1 x2 x5 _ (fun y2 M27 => ?_) zN _ _ _
      refine ev_iinc (j := 4) (v := 1) (lv' := [(0, .ref (G.2.1 + x0)), (1, .int x1), (2, .int x2), (4, .int y2), (5, .int (x5 + 1))]) [1, 2, 3, 4, 0] dd_X12_swaps_383 rfl (by decide) (by decide) rfl ?_
      refine ev_goto 146 dd_X12_swaps_386 (by decide) ?_
      exact ih _ _ _
set_option maxHeartbeats 1000000 in
set_option maxRecDepth 20000 in
theorem ct_X12_swaps (l : Launch) (hl : l.stackTraces = false) (G : zG) (t : Nat) (ht : zsh t = 12) (a1 : Int32) (a2 : Int32) (M : zM) : zMt l G Y_X12_swaps 5 [.ref (G.2.1 + t), .int a1, .int a2] M (F_X12_swaps t a1 a2 M) := by
  refine zMt_of (by decide +kernel) (Nat.le_of_ble_eq_true rfl) ?_
  show zEv l G Y_X12_swaps 5 0 0 [(0, .ref (G.2.1 + t)), (1, .int a1), (2, .int a2)] [] M (zst (zup M t 0 0) (fun M1 => zbI (F_X12_isWhat t a2 2 M1) (fun r1 M2 => zjo (fun  (M31 : zM) => zI 0 M31) (fun (k1 : zM → zO) => zit (r1 = 0) (k1 M2) (zbI (F_X12_isArrangement t a1 M2) (fun r2 M3 => zbI (F_X12_right t r2 2 M3) (fun r3 M4 => zit (r3 = 0) (k1 M4) (zit (a2 = 2) (zbI (F_X12_rings t M4) (fun r9 M30 => zI ((M4 t 1) - r9) M30)) (zit ((M4 t 1) ≤ 6) (zst (zup M4 t 60 ((M4 t 60) + 1)) (fun M5 => zbV (F_X12_copies t (zgr t 47) (zgr t 48) M5) (fun M6 => zbI (F_X12_codeOf t (zgr t 47) M6) (fun r4 M7 => zit (r4 = a1) (zjo (fun (w4 : Int32) (M29 : zM) => zI w4 M29) (fun (k5 : Int32 → zM → zO) => zit (a2 = 0) (k5 0 M7) (k5 (-1) M7))) (zbI (F_X12_rankOf t (zgr t 47) M7) (fun r5 M8 => zck (zin r5 720) (zst (zup M8 (zgr t 55) (zix r5) (M8 t 60)) (fun M9 => zck (zin 0 720) (zst (zup M9 (zgr t 56) (zix 0) r4) (fun M10 => zck (zin 0 720) (zst (zup M10 (zgr t 57) (zix 0) (-1)) (fun M11 => zck (zin 0 720) (zst (zup M11 (zgr t 58) (zix 0) 0) (fun M12 => F_X12_swaps_L146 t a1 a2 (fun  (M28 : zM) => zI (-1) M28) zN 1 0 M12)))))))))))))) (zI (-2) M4))))))))))
  refine ev_aload_n dd_X12_swaps_0 0 rfl ?_
  refine ev_iconst (v := 0) dd_X12_swaps_1 (by decide) ?_
  refine ev_putI gw_RX12_153 dd_X12_swaps_2 ht (by decide) ?_
  refine ev_st (fun M1 => ?_)
  refine ev_aload_n dd_X12_swaps_5 0 rfl ?_
  refine ev_iload_n dd_X12_swaps_6 2 rfl ?_
  refine ev_iconst (v := 2) dd_X12_swaps_7 (by decide) ?_
  refine ev_callVI (As := [.int a2, .int 2]) cl_RX12_349 (ct_X12_isWhat l hl G t ht a2 2 M1) dd_X12_swaps_8 ht (by decide) (Nat.le_of_ble_eq_true rfl) (Nat.le_of_ble_eq_true rfl) rfl rfl (fun r1 M2 => ?_)
  refine ev_jo (fun (k1 : zM → zO) => ∀  (M31 : zM), zEv l G Y_X12_swaps 5 0 27 [] [] M31 (k1 M31)) ?_ (fun k1 hk1 => ?_)
  · intro M31
    refine ev_iconst (v := 0) dd_X12_swaps_27 (by decide) ?_
    exact ev_iret dd_X12_swaps_28 rfl (Nat.le_of_ble_eq_true rfl) rfl
  · refine ev_if_eq 27 dd_X12_swaps_11 (by decide) ?_ ?_
    · refine ev_lv (lv' := []) [] rfl ?_
      exact hk1 _
    · refine ev_aload_n dd_X12_swaps_14 0 rfl ?_
      refine ev_aload_n dd_X12_swaps_15 0 rfl ?_
      refine ev_iload_n dd_X12_swaps_16 1 rfl ?_
      refine ev_callVI (As := [.int a1]) cl_RX12_409 (ct_X12_isArrangement l hl G t ht a1 M2) dd_X12_swaps_17 ht (by decide) (Nat.le_of_ble_eq_true rfl) (Nat.le_of_ble_eq_true rfl) rfl rfl (fun r2 M3 => ?_)
      refine ev_iconst (v := 2) dd_X12_swaps_20 (by decide) ?_
      refine ev_callVI (As := [.int r2, .int 2]) cl_RX12_312 (ct_X12_right l hl G t ht r2 2 M3) dd_X12_swaps_21 ht (by decide) (Nat.le_of_ble_eq_true rfl) (Nat.le_of_ble_eq_true rfl) rfl rfl (fun r3 M4 => ?_)
      refine ev_if_ne 29 dd_X12_swaps_24 (by decide) ?_ ?_
      · refine ev_iload_n dd_X12_swaps_29 2 rfl ?_
        refine ev_iconst (v := 2) dd_X12_swaps_30 (by decide) ?_
        refine ev_icmp_ne 44 dd_X12_swaps_31 (by decide) ?_ ?_
        · refine ev_aload_n dd_X12_swaps_44 0 rfl ?_
          refine ev_getI gf_RX12_319 dd_X12_swaps_45 ht (by decide) ?_
          refine ev_bipush (v := 6) dd_X12_swaps_48 (by decide) ?_
          refine ev_icmp_le 56 dd_X12_swaps_50 (by decide) ?_ ?_
          · refine ev_aload_n dd_X12_swaps_56 0 rfl ?_
            refine ev_dup dd_X12_swaps_57 rfl ?_
            refine ev_getI gf_RX12_415 dd_X12_swaps_58 ht (by decide) ?_
            refine ev_iconst (v := 1) dd_X12_swaps_61 (by decide) ?_
            refine ev_iadd dd_X12_swaps_62 ?_
            refine ev_putI gw_RX12_415 dd_X12_swaps_63 ht (by decide) ?_
            refine ev_st (fun M5 => ?_)
            refine ev_aload_n dd_X12_swaps_66 0 rfl ?_
            refine ev_aload_n dd_X12_swaps_67 0 rfl ?_
            refine ev_getR gf_RX12_87 dd_X12_swaps_68 ht (by decide) ?_
            refine ev_aload_n dd_X12_swaps_71 0 rfl ?_
            refine ev_getR gf_RX12_90 dd_X12_swaps_72 ht (by decide) ?_
            refine ev_callVV (As := [.ref (G.2.1 + (zgr t 47)), .ref (G.2.1 + (zgr t 48))]) cl_RX12_325 (ct_X12_copies l hl G t ht (zgr t 47) ((zg_12_47 ht).1) (zgr t 48) ((zg_12_48 ht).1) M5) dd_X12_swaps_75 ht (by decide) (Nat.le_of_ble_eq_true rfl) (Nat.le_of_ble_eq_true rfl) rfl rfl (fun M6 => ?_)
            refine ev_aload_n dd_X12_swaps_78 0 rfl ?_
            refine ev_aload_n dd_X12_swaps_79 0 rfl ?_
            refine ev_getR gf_RX12_87 dd_X12_swaps_80 ht (by decide) ?_
            refine ev_callVI (As := [.ref (G.2.1 + (zgr t 47))]) cl_RX12_418 (ct_X12_codeOf l hl G t ht (zgr t 47) ((zg_12_47 ht).1) M6) dd_X12_swaps_83 ht (by decide) (Nat.le_of_ble_eq_true rfl) (Nat.le_of_ble_eq_true rfl) rfl rfl (fun r4 M7 => ?_)
            refine ev_istore_n (i := 3) (lv' := [(0, .ref (G.2.1 + t)), (1, .int a1), (2, .int a2), (3, .int r4)]) [1, 2, 3, 0] dd_X12_swaps_86 rfl (by decide) rfl ?_
            refine ev_iload_n dd_X12_swaps_87 3 rfl ?_
            refine ev_iload_n dd_X12_swaps_88 1 rfl ?_
            refine ev_icmp_ne 102 dd_X12_swaps_89 (by decide) ?_ ?_
            · refine ev_aload_n dd_X12_swaps_102 0 rfl ?_
              refine ev_getR gf_RX12_108 dd_X12_swaps_103 ht (by decide) ?_
              refine ev_aload_n dd_X12_swaps_106 0 rfl ?_
              refine ev_aload_n dd_X12_swaps_107 0 rfl ?_
              refine ev_getR gf_RX12_87 dd_X12_swaps_108 ht (by decide) ?_
              refine ev_callVI (As := [.ref (G.2.1 + (zgr t 47))]) cl_RX12_421 (ct_X12_rankOf l hl G t ht (zgr t 47) ((zg_12_47 ht).1) M7) dd_X12_swaps_111 ht (by decide) (Nat.le_of_ble_eq_true rfl) (Nat.le_of_ble_eq_true rfl) rfl rfl (fun r5 M8 => ?_)
              refine ev_aload_n dd_X12_swaps_114 0 rfl ?_
              refine ev_getI gf_RX12_415 dd_X12_swaps_115 ht (by decide) ?_
              refine ev_iast dd_X12_swaps_118 ((zg_12_55 ht).1) ((zg_12_55 ht).2) ?_
              refine ev_st (fun M9 => ?_)
              refine ev_aload_n dd_X12_swaps_119 0 rfl ?_
              refine ev_getR gf_RX12_111 dd_X12_swaps_120 ht (by decide) ?_
              refine ev_iconst (v := 0) dd_X12_swaps_123 (by decide) ?_
              refine ev_iload_n dd_X12_swaps_124 3 rfl ?_
              refine ev_lv (lv' := [(0, .ref (G.2.1 + t)), (1, .int a1), (2, .int a2)]) [0, 1, 2] rfl ?_
              refine ev_iast dd_X12_swaps_125 ((zg_12_56 ht).1) ((zg_12_56 ht).2) ?_
              refine ev_st (fun M10 => ?_)
              refine ev_aload_n dd_X12_swaps_126 0 rfl ?_
              refine ev_getR gf_RX12_114 dd_X12_swaps_127 ht (by decide) ?_
              refine ev_iconst (v := 0) dd_X12_swaps_130 (by decide) ?_
              refine ev_iconst (v := (-1)) dd_X12_swaps_131 (by decide) ?_
              refine ev_iast dd_X12_swaps_132 ((zg_12_57 ht).1) ((zg_12_57 ht).2) ?_
              refine ev_st (fun M11 => ?_)
              refine ev_aload_n dd_X12_swaps_133 0 rfl ?_
              refine ev_getR gf_RX12_117 dd_X12_swaps_134 ht (by decide) ?_
              refine ev_iconst (v := 0) dd_X12_swaps_137 (by decide) ?_
              refine ev_iconst (v := 0) dd_X12_swaps_138 (by decide) ?_
              refine ev_iast dd_X12_swaps_139 ((zg_12_58 ht).1) ((zg_12_58 ht).2) ?_
              refine ev_st (fun M12 => ?_)
              refine ev_iconst (v := 1) dd_X12_swaps_140 (by decide) ?_
              refine ev_istore (i := 4) (lv' := [(0, .ref (G.2.1 + t)), (1, .int a1), (2, .int a2), (4, .int 1)]) [1, 2, 3, 0] dd_X12_swaps_141 (by decide) rfl ?_
              refine ev_iconst (v := 0) dd_X12_swaps_143 (by decide) ?_
              refine ev_istore (i := 5) (lv' := [(0, .ref (G.2.1 + t)), (1, .int a1), (2, .int a2), (4, .int 1), (5, .int 0)]) [1, 2, 3, 4, 0] dd_X12_swaps_144 (by decide) rfl ?_
              refine ct_X12_swaps_L146 l hl G t ht a1 a2 _ (fun M28 => ?_) zN _ _ _
              refine ev_iconst (v := (-1)) dd_X12_swaps_389 (by decide) ?_
              exact ev_iret dd_X12_swaps_390 rfl (Nat.le_of_ble_eq_true rfl) rfl
            · refine ev_lv (lv' := [(2, .int a2)]) [2] rfl ?_
              refine ev_iload_n dd_X12_swaps_92 0 rfl ?_
              refine ev_lv (lv' := []) [] rfl ?_
              refine ev_jo (fun (k5 : Int32 → zM → zO) => ∀ (w4 : Int32) (M29 : zM), zEv l G Y_X12_swaps 5 0 101 [] [.int w4] M29 (k5 w4 M29)) ?_ (fun k5 hk5 => ?_)
              · intro w4 M29
                exact ev_iret dd_X12_swaps_101 rfl (Nat.le_of_ble_eq_true rfl) rfl
              · refine ev_if_ne 100 dd_X12_swaps_93 (by decide) ?_ ?_
                · refine ev_iconst (v := (-1)) dd_X12_swaps_100 (by decide) ?_
                  exact hk5 _ _
                · refine ev_iconst (v := 0) dd_X12_swaps_96 (by decide) ?_
                  refine ev_goto 101 dd_X12_swaps_97 (by decide) ?_
                  exact hk5 _ _
          · refine ev_lv (lv' := []) [] rfl ?_
            refine ev_bipush (v := (-2)) dd_X12_swaps_53 (by decide) ?_
            exact ev_iret dd_X12_swaps_55 rfl (Nat.le_of_ble_eq_true rfl) rfl
        · refine ev_lv (lv' := [(0, .ref (G.2.1 + t))]) [0] rfl ?_
          refine ev_aload_n dd_X12_swaps_34 0 rfl ?_
          refine ev_getI gf_RX12_319 dd_X12_swaps_35 ht (by decide) ?_
          refine ev_aload_n dd_X12_swaps_38 0 rfl ?_
          refine ev_lv (lv' := []) [] rfl ?_
          refine ev_callVI (As := []) cl_RX12_412 (ct_X12_rings l hl G t ht M4) dd_X12_swaps_39 ht (by decide) (Nat.le_of_ble_eq_true rfl) (Nat.le_of_ble_eq_true rfl) rfl rfl (fun r9 M30 => ?_)
          refine ev_isub dd_X12_swaps_42 ?_
          exact ev_iret dd_X12_swaps_43 rfl (Nat.le_of_ble_eq_true rfl) rfl
      · refine ev_lv (lv' := []) [] rfl ?_
        exact hk1 _
/-! X12_thrown -/
theorem dd_X12_thrown_0 : decode Y_X12_thrown.2.1 0 = .ok (.aload_n 0, 1) := by decide +kernel
theorem dd_X12_thrown_1 : decode Y_X12_thrown.2.1 1 = .ok (.getfield 153, 3) := by decide +kernel
theorem dd_X12_thrown_4 : decode Y_X12_thrown.2.1 4 = .ok (.ireturn, 1) := by decide +kernel
def F_X12_thrown (t : Nat) (M : zM) : zO := zI (M t 0) M
set_option maxHeartbeats 1000000 in
set_option maxRecDepth 20000 in
theorem ct_X12_thrown (l : Launch) (hl : l.stackTraces = false) (G : zG) (t : Nat) (ht : zsh t = 12) (M : zM) : zMt l G Y_X12_thrown 1 [.ref (G.2.1 + t)] M (F_X12_thrown t M) := by
  refine zMt_of (by decide +kernel) (Nat.le_of_ble_eq_true rfl) ?_
  show zEv l G Y_X12_thrown 1 0 0 [(0, .ref (G.2.1 + t))] [] M (zI (M t 0) M)
  refine ev_aload_n dd_X12_thrown_0 0 rfl ?_
  refine ev_lv (lv' := []) [] rfl ?_
  refine ev_getI gf_RX12_153 dd_X12_thrown_1 ht (by decide) ?_
  exact ev_iret dd_X12_thrown_4 rfl (Nat.le_of_ble_eq_true rfl) rfl
