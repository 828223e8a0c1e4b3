/-! F functions and walks, by program (gen.py, mkparts.py) -/
/-! X12_feed -/
theorem dd_X12_feed_0 : decode Y_X12_feed.2.1 0 = .ok (.aload_n 0, 1) := by decide +kernel
theorem dd_X12_feed_1 : decode Y_X12_feed.2.1 1 = .ok (.iconst 0, 1) := by decide +kernel
theorem dd_X12_feed_2 : decode Y_X12_feed.2.1 2 = .ok (.putfield 153, 3) := by decide +kernel
theorem dd_X12_feed_5 : decode Y_X12_feed.2.1 5 = .ok (.aload_n 0, 1) := by decide +kernel
theorem dd_X12_feed_6 : decode Y_X12_feed.2.1 6 = .ok (.getfield 156, 3) := by decide +kernel
theorem dd_X12_feed_9 : decode Y_X12_feed.2.1 9 = .ok (.bipush 20, 2) := by decide +kernel
theorem dd_X12_feed_11 : decode Y_X12_feed.2.1 11 = .ok (.iadd, 1) := by decide +kernel
theorem dd_X12_feed_12 : decode Y_X12_feed.2.1 12 = .ok (.sipush 700, 3) := by decide +kernel
theorem dd_X12_feed_15 : decode Y_X12_feed.2.1 15 = .ok (.if_icmp .le 5, 3) := by decide +kernel
theorem dd_X12_feed_18 : decode Y_X12_feed.2.1 18 = .ok (.iconst (-1), 1) := by decide +kernel
theorem dd_X12_feed_19 : decode Y_X12_feed.2.1 19 = .ok (.ireturn, 1) := by decide +kernel
theorem dd_X12_feed_20 : decode Y_X12_feed.2.1 20 = .ok (.aload_n 0, 1) := by decide +kernel
theorem dd_X12_feed_21 : decode Y_X12_feed.2.1 21 = .ok (.iload_n 1, 1) := by decide +kernel
theorem dd_X12_feed_22 : decode Y_X12_feed.2.1 22 = .ok (.invokevirtual 159, 3) := by decide +kernel
theorem dd_X12_feed_25 : decode Y_X12_feed.2.1 25 = .ok (.aload_n 0, 1) := by decide +kernel
theorem dd_X12_feed_26 : decode Y_X12_feed.2.1 26 = .ok (.iload_n 2, 1) := by decide +kernel
theorem dd_X12_feed_27 : decode Y_X12_feed.2.1 27 = .ok (.invokevirtual 159, 3) := by decide +kernel
theorem dd_X12_feed_30 : decode Y_X12_feed.2.1 30 = .ok (.aload_n 0, 1) := by decide +kernel
theorem dd_X12_feed_31 : decode Y_X12_feed.2.1 31 = .ok (.iload_n 3, 1) := by decide +kernel
theorem dd_X12_feed_32 : decode Y_X12_feed.2.1 32 = .ok (.invokevirtual 159, 3) := by decide +kernel
theorem dd_X12_feed_35 : decode Y_X12_feed.2.1 35 = .ok (.aload_n 0, 1) := by decide +kernel
theorem dd_X12_feed_36 : decode Y_X12_feed.2.1 36 = .ok (.iload 4, 2) := by decide +kernel
theorem dd_X12_feed_38 : decode Y_X12_feed.2.1 38 = .ok (.invokevirtual 159, 3) := by decide +kernel
theorem dd_X12_feed_41 : decode Y_X12_feed.2.1 41 = .ok (.aload_n 0, 1) := by decide +kernel
theorem dd_X12_feed_42 : decode Y_X12_feed.2.1 42 = .ok (.iload 5, 2) := by decide +kernel
theorem dd_X12_feed_44 : decode Y_X12_feed.2.1 44 = .ok (.invokevirtual 159, 3) := by decide +kernel
theorem dd_X12_feed_47 : decode Y_X12_feed.2.1 47 = .ok (.aload_n 0, 1) := by decide +kernel
theorem dd_X12_feed_48 : decode Y_X12_feed.2.1 48 = .ok (.getfield 156, 3) := by decide +kernel
theorem dd_X12_feed_51 : decode Y_X12_feed.2.1 51 = .ok (.ireturn, 1) := by decide +kernel
def F_X12_feed (t : Nat) (a1 : Int32) (a2 : Int32) (a3 : Int32) (a4 : Int32) (a5 : Int32) (M : zM) : zO := zst (zup M t 0 0) (fun M1 => zit (((M1 t 15) + 20) ≤ 700) (zbV (F_X12_lays t a1 M1) (fun M2 => zbV (F_X12_lays t a2 M2) (fun M3 => zbV (F_X12_lays t a3 M3) (fun M4 => zbV (F_X12_lays t a4 M4) (fun M5 => zbV (F_X12_lays t a5 M5) (fun M6 => zI (M6 t 15) M6)))))) (zI (-1) M1))
set_option maxHeartbeats 1000000 in
set_option maxRecDepth 20000 in
theorem ct_X12_feed (l : Launch) (hl : l.stackTraces = false) (G : zG) (t : Nat) (ht : zsh t = 12) (a1 : Int32) (a2 : Int32) (a3 : Int32) (a4 : Int32) (a5 : Int32) (M : zM) : zMt l G Y_X12_feed 2 [.ref (G.2.1 + t), .int a1, .int a2, .int a3, .int a4, .int a5] M (F_X12_feed t a1 a2 a3 a4 a5 M) := by
  refine zMt_of (by decide +kernel) (Nat.le_of_ble_eq_true rfl) ?_
  show zEv l G Y_X12_feed 2 0 0 [(0, .ref (G.2.1 + t)), (1, .int a1), (2, .int a2), (3, .int a3), (4, .int a4), (5, .int a5)] [] M (zst (zup M t 0 0) (fun M1 => zit (((M1 t 15) + 20) ≤ 700) (zbV (F_X12_lays t a1 M1) (fun M2 => zbV (F_X12_lays t a2 M2) (fun M3 => zbV (F_X12_lays t a3 M3) (fun M4 => zbV (F_X12_lays t a4 M4) (fun M5 => zbV (F_X12_lays t a5 M5) (fun M6 => zI (M6 t 15) M6)))))) (zI (-1) M1)))
  refine ev_aload_n dd_X12_feed_0 0 rfl ?_
  refine ev_iconst (v := 0) dd_X12_feed_1 (by decide) ?_
  refine ev_putI gw_RX12_153 dd_X12_feed_2 ht (by decide) ?_
  refine ev_st (fun M1 => ?_)
  refine ev_aload_n dd_X12_feed_5 0 rfl ?_
  refine ev_getI gf_RX12_156 dd_X12_feed_6 ht (by decide) ?_
  refine ev_bipush (v := 20) dd_X12_feed_9 (by decide) ?_
  refine ev_iadd dd_X12_feed_11 ?_
  refine ev_sipush (v := 700) dd_X12_feed_12 (by decide) ?_
  refine ev_icmp_le 20 dd_X12_feed_15 (by decide) ?_ ?_
  · refine ev_aload_n dd_X12_feed_20 0 rfl ?_
    refine ev_iload_n dd_X12_feed_21 1 rfl ?_
    refine ev_lv (lv' := [(0, .ref (G.2.1 + t)), (2, .int a2), (3, .int a3), (4, .int a4), (5, .int a5)]) [0, 2, 3, 4, 5] rfl ?_
    refine ev_callVV (As := [.int a1]) cl_RX12_159 (ct_X12_lays l hl G t ht a1 M1) dd_X12_feed_22 ht (by decide) (Nat.le_of_ble_eq_true rfl) (Nat.le_of_ble_eq_true rfl) rfl rfl (fun M2 => ?_)
    refine ev_aload_n dd_X12_feed_25 0 rfl ?_
    refine ev_iload_n dd_X12_feed_26 1 rfl ?_
    refine ev_lv (lv' := [(0, .ref (G.2.1 + t)), (3, .int a3), (4, .int a4), (5, .int a5)]) [0, 2, 3, 4] rfl ?_
    refine ev_callVV (As := [.int a2]) cl_RX12_159 (ct_X12_lays l hl G t ht a2 M2) dd_X12_feed_27 ht (by decide) (Nat.le_of_ble_eq_true rfl) (Nat.le_of_ble_eq_true rfl) rfl rfl (fun M3 => ?_)
    refine ev_aload_n dd_X12_feed_30 0 rfl ?_
    refine ev_iload_n dd_X12_feed_31 1 rfl ?_
    refine ev_lv (lv' := [(0, .ref (G.2.1 + t)), (4, .int a4), (5, .int a5)]) [0, 2, 3] rfl ?_
    refine ev_callVV (As := [.int a3]) cl_RX12_159 (ct_X12_lays l hl G t ht a3 M3) dd_X12_feed_32 ht (by decide) (Nat.le_of_ble_eq_true rfl) (Nat.le_of_ble_eq_true rfl) rfl rfl (fun M4 => ?_)
    refine ev_aload_n dd_X12_feed_35 0 rfl ?_
    refine ev_iload dd_X12_feed_36 1 rfl ?_
    refine ev_lv (lv' := [(0, .ref (G.2.1 + t)), (5, .int a5)]) [0, 2] rfl ?_
    refine ev_callVV (As := [.int a4]) cl_RX12_159 (ct_X12_lays l hl G t ht a4 M4) dd_X12_feed_38 ht (by decide) (Nat.le_of_ble_eq_true rfl) (Nat.le_of_ble_eq_true rfl) rfl rfl (fun M5 => ?_)
    refine ev_aload_n dd_X12_feed_41 0 rfl ?_
    refine ev_iload dd_X12_feed_42 1 rfl ?_
    refine ev_lv (lv' := [(0, .ref (G.2.1 + t))]) [0] rfl ?_
    refine ev_callVV (As := [.int a5]) cl_RX12_159 (ct_X12_lays l hl G t ht a5 M5) dd_X12_feed_44 ht (by decide) (Nat.le_of_ble_eq_true rfl) (Nat.le_of_ble_eq_true rfl) rfl rfl (fun M6 => ?_)
    refine ev_aload_n dd_X12_feed_47 0 rfl ?_
    refine ev_lv (lv' := []) [] rfl ?_
    refine ev_getI gf_RX12_156 dd_X12_feed_48 ht (by decide) ?_
    exact ev_iret dd_X12_feed_51 rfl (Nat.le_of_ble_eq_true rfl) rfl
  · refine ev_lv (lv' := []) [] rfl ?_
    refine ev_iconst (v := (-1)) dd_X12_feed_18 (by decide) ?_
    exact ev_iret dd_X12_feed_19 rfl (Nat.le_of_ble_eq_true rfl) rfl
/-! X12_forget -/
theorem dd_X12_forget_0 : decode Y_X12_forget.2.1 0 = .ok (.aload_n 0, 1) := by decide +kernel
theorem dd_X12_forget_1 : decode Y_X12_forget.2.1 1 = .ok (.iconst 0, 1) := by decide +kernel
theorem dd_X12_forget_2 : decode Y_X12_forget.2.1 2 = .ok (.putfield 153, 3) := by decide +kernel
theorem dd_X12_forget_5 : decode Y_X12_forget.2.1 5 = .ok (.aload_n 0, 1) := by decide +kernel
theorem dd_X12_forget_6 : decode Y_X12_forget.2.1 6 = .ok (.iconst 0, 1) := by decide +kernel
theorem dd_X12_forget_7 : decode Y_X12_forget.2.1 7 = .ok (.putfield 332, 3) := by decide +kernel
theorem dd_X12_forget_10 : decode Y_X12_forget.2.1 10 = .ok (.return_, 1) := by decide +kernel
def F_X12_forget (t : Nat) (M : zM) : zO := zst (zup M t 0 0) (fun M1 => zst (zup M1 t 64 0) (fun M2 => zV M2))
set_option maxHeartbeats 1000000 in
set_option maxRecDepth 20000 in
theorem ct_X12_forget (l : Launch) (hl : l.stackTraces = false) (G : zG) (t : Nat) (ht : zsh t = 12) (M : zM) : zMt l G Y_X12_forget 1 [.ref (G.2.1 + t)] M (F_X12_forget t M) := by
  refine zMt_of (by decide +kernel) (Nat.le_of_ble_eq_true rfl) ?_
  show zEv l G Y_X12_forget 1 0 0 [(0, .ref (G.2.1 + t))] [] M (zst (zup M t 0 0) (fun M1 => zst (zup M1 t 64 0) (fun M2 => zV M2)))
  refine ev_aload_n dd_X12_forget_0 0 rfl ?_
  refine ev_iconst (v := 0) dd_X12_forget_1 (by decide) ?_
  refine ev_putI gw_RX12_153 dd_X12_forget_2 ht (by decide) ?_
  refine ev_st (fun M1 => ?_)
  refine ev_aload_n dd_X12_forget_5 0 rfl ?_
  refine ev_lv (lv' := []) [] rfl ?_
  refine ev_iconst (v := 0) dd_X12_forget_6 (by decide) ?_
  refine ev_putI gw_RX12_332 dd_X12_forget_7 ht (by decide) ?_
  refine ev_st (fun M2 => ?_)
  exact ev_vret dd_X12_forget_10 rfl (Nat.le_of_ble_eq_true rfl) rfl
/-! X12_keeps -/
theorem dd_X12_keeps_0 : decode Y_X12_keeps.2.1 0 = .ok (.aload_n 0, 1) := by decide +kernel
theorem dd_X12_keeps_1 : decode Y_X12_keeps.2.1 1 = .ok (.getfield 329, 3) := by decide +kernel
theorem dd_X12_keeps_4 : decode Y_X12_keeps.2.1 4 = .ok (.bipush 40, 2) := by decide +kernel
theorem dd_X12_keeps_6 : decode Y_X12_keeps.2.1 6 = .ok (.if_icmp .ne 44, 3) := by decide +kernel
theorem dd_X12_keeps_9 : decode Y_X12_keeps.2.1 9 = .ok (.bipush 73, 2) := by decide +kernel
theorem dd_X12_keeps_11 : decode Y_X12_keeps.2.1 11 = .ok (.istore_n 1, 1) := by decide +kernel
theorem dd_X12_keeps_12 : decode Y_X12_keeps.2.1 12 = .ok (.iload_n 1, 1) := by decide +kernel
theorem dd_X12_keeps_13 : decode Y_X12_keeps.2.1 13 = .ok (.sipush 2920, 3) := by decide +kernel
theorem dd_X12_keeps_16 : decode Y_X12_keeps.2.1 16 = .ok (.if_icmp .ge 24, 3) := by decide +kernel
theorem dd_X12_keeps_19 : decode Y_X12_keeps.2.1 19 = .ok (.aload_n 0, 1) := by decide +kernel
theorem dd_X12_keeps_20 : decode Y_X12_keeps.2.1 20 = .ok (.getfield 93, 3) := by decide +kernel
theorem dd_X12_keeps_23 : decode Y_X12_keeps.2.1 23 = .ok (.iload_n 1, 1) := by decide +kernel
theorem dd_X12_keeps_24 : decode Y_X12_keeps.2.1 24 = .ok (.bipush 73, 2) := by decide +kernel
theorem dd_X12_keeps_26 : decode Y_X12_keeps.2.1 26 = .ok (.isub, 1) := by decide +kernel
theorem dd_X12_keeps_27 : decode Y_X12_keeps.2.1 27 = .ok (.aload_n 0, 1) := by decide +kernel
theorem dd_X12_keeps_28 : decode Y_X12_keeps.2.1 28 = .ok (.getfield 93, 3) := by decide +kernel
theorem dd_X12_keeps_31 : decode Y_X12_keeps.2.1 31 = .ok (.iload_n 1, 1) := by decide +kernel
theorem dd_X12_keeps_32 : decode Y_X12_keeps.2.1 32 = .ok (.iaload, 1) := by decide +kernel
theorem dd_X12_keeps_33 : decode Y_X12_keeps.2.1 33 = .ok (.iastore, 1) := by decide +kernel
theorem dd_X12_keeps_34 : decode Y_X12_keeps.2.1 34 = .ok (.iinc 1 1, 3) := by decide +kernel
theorem dd_X12_keeps_37 : decode Y_X12_keeps.2.1 37 = .ok (.goto (-25), 3) := by decide +kernel
theorem dd_X12_keeps_40 : decode Y_X12_keeps.2.1 40 = .ok (.aload_n 0, 1) := by decide +kernel
theorem dd_X12_keeps_41 : decode Y_X12_keeps.2.1 41 = .ok (.dup, 1) := by decide +kernel
theorem dd_X12_keeps_42 : decode Y_X12_keeps.2.1 42 = .ok (.getfield 329, 3) := by decide +kernel
theorem dd_X12_keeps_45 : decode Y_X12_keeps.2.1 45 = .ok (.iconst 1, 1) := by decide +kernel
theorem dd_X12_keeps_46 : decode Y_X12_keeps.2.1 46 = .ok (.isub, 1) := by decide +kernel
theorem dd_X12_keeps_47 : decode Y_X12_keeps.2.1 47 = .ok (.putfield 329, 3) := by decide +kernel
theorem dd_X12_keeps_50 : decode Y_X12_keeps.2.1 50 = .ok (.iconst 0, 1) := by decide +kernel
theorem dd_X12_keeps_51 : decode Y_X12_keeps.2.1 51 = .ok (.istore_n 1, 1) := by decide +kernel
theorem dd_X12_keeps_52 : decode Y_X12_keeps.2.1 52 = .ok (.iload_n 1, 1) := by decide +kernel
theorem dd_X12_keeps_53 : decode Y_X12_keeps.2.1 53 = .ok (.bipush 73, 2) := by decide +kernel
theorem dd_X12_keeps_55 : decode Y_X12_keeps.2.1 55 = .ok (.if_icmp .ge 29, 3) := by decide +kernel
theorem dd_X12_keeps_58 : decode Y_X12_keeps.2.1 58 = .ok (.aload_n 0, 1) := by decide +kernel
theorem dd_X12_keeps_59 : decode Y_X12_keeps.2.1 59 = .ok (.getfield 93, 3) := by decide +kernel
theorem dd_X12_keeps_62 : decode Y_X12_keeps.2.1 62 = .ok (.bipush 73, 2) := by decide +kernel
theorem dd_X12_keeps_64 : decode Y_X12_keeps.2.1 64 = .ok (.aload_n 0, 1) := by decide +kernel
theorem dd_X12_keeps_65 : decode Y_X12_keeps.2.1 65 = .ok (.getfield 329, 3) := by decide +kernel
theorem dd_X12_keeps_68 : decode Y_X12_keeps.2.1 68 = .ok (.imul, 1) := by decide +kernel
theorem dd_X12_keeps_69 : decode Y_X12_keeps.2.1 69 = .ok (.iload_n 1, 1) := by decide +kernel
theorem dd_X12_keeps_70 : decode Y_X12_keeps.2.1 70 = .ok (.iadd, 1) := by decide +kernel
theorem dd_X12_keeps_71 : decode Y_X12_keeps.2.1 71 = .ok (.aload_n 0, 1) := by decide +kernel
theorem dd_X12_keeps_72 : decode Y_X12_keeps.2.1 72 = .ok (.getfield 87, 3) := by decide +kernel
theorem dd_X12_keeps_75 : decode Y_X12_keeps.2.1 75 = .ok (.iload_n 1, 1) := by decide +kernel
theorem dd_X12_keeps_76 : decode Y_X12_keeps.2.1 76 = .ok (.iaload, 1) := by decide +kernel
theorem dd_X12_keeps_77 : decode Y_X12_keeps.2.1 77 = .ok (.iastore, 1) := by decide +kernel
theorem dd_X12_keeps_78 : decode Y_X12_keeps.2.1 78 = .ok (.iinc 1 1, 3) := by decide +kernel
theorem dd_X12_keeps_81 : decode Y_X12_keeps.2.1 81 = .ok (.goto (-29), 3) := by decide +kernel
theorem dd_X12_keeps_84 : decode Y_X12_keeps.2.1 84 = .ok (.aload_n 0, 1) := by decide +kernel
theorem dd_X12_keeps_85 : decode Y_X12_keeps.2.1 85 = .ok (.dup, 1) := by decide +kernel
theorem dd_X12_keeps_86 : decode Y_X12_keeps.2.1 86 = .ok (.getfield 329, 3) := by decide +kernel
theorem dd_X12_keeps_89 : decode Y_X12_keeps.2.1 89 = .ok (.iconst 1, 1) := by decide +kernel
theorem dd_X12_keeps_90 : decode Y_X12_keeps.2.1 90 = .ok (.iadd, 1) := by decide +kernel
theorem dd_X12_keeps_91 : decode Y_X12_keeps.2.1 91 = .ok (.putfield 329, 3) := by decide +kernel
theorem dd_X12_keeps_94 : decode Y_X12_keeps.2.1 94 = .ok (.return_, 1) := by decide +kernel
def F_X12_keeps_L12 (x0 : Nat) (K40 : zM → zO) : Nat → Int32 → zM → zO
  | 0, _, _ => none
  | n + 1, x1, M => zit (2920 ≤ x1) (K40 M) (zck (zin x1 2920) (zck (zin (x1 - 73) 2920) (zst (zup M (zgr x0 49) (zix (x1 - 73)) (M (zgr x0 49) (zix x1))) (fun M1 => F_X12_keeps_L12 x0 K40 n (x1 + 1) M1))))
def F_X12_keeps_L52 (x0 : Nat) (K84 : zM → zO) : Nat → Int32 → zM → zO
  | 0, _, _ => none
  | n + 1, x1, M => zit (73 ≤ x1) (K84 M) (zck (zin x1 73) (zck (zin ((73 * (M x0 50)) + x1) 2920) (zst (zup M (zgr x0 49) (zix ((73 * (M x0 50)) + x1)) (M (zgr x0 47) (zix x1))) (fun M5 => F_X12_keeps_L52 x0 K84 n (x1 + 1) M5))))
def F_X12_keeps (t : Nat) (M : zM) : zO := zjo (fun  (M4 : zM) => F_X12_keeps_L52 t (fun  (M6 : zM) => zst (zup M6 t 50 ((M6 t 50) + 1)) (fun M7 => zV M7)) zN 0 M4) (fun (k1 : zM → zO) => zit ((M t 50) = 40) (F_X12_keeps_L12 t (fun  (M2 : zM) => zst (zup M2 t 50 ((M2 t 50) - 1)) (fun M3 => k1 M3)) zN 73 M) (k1 M))
set_option maxHeartbeats 1000000 in
set_option maxRecDepth 20000 in
theorem ct_X12_keeps_L12 (l : Launch) (hl : l.stackTraces = false) (G : zG) (x0 : Nat) (hx0 : zsh x0 = 12) (K40 : zM → zO) (hK40 : ∀  (M : zM), zEv l G Y_X12_keeps 1 0 40 [(0, .ref (G.2.1 + x0))] [] M (K40 M)) : ∀ (n : Nat) (x1 : Int32) (M : zM), zEv l G Y_X12_keeps 1 0 12 [(0, .ref (G.2.1 + x0)), (1, .int x1)] [] M (F_X12_keeps_L12 x0 K40 n x1 M) := by
  intro n
  induction n with
  | zero => intro x1 M; exact ev_none
  | succ n ih =>
    intro x1 M
    show zEv l G Y_X12_keeps 1 0 12 [(0, .ref (G.2.1 + x0)), (1, .int x1)] [] M (zit (2920 ≤ x1) (K40 M) (zck (zin x1 2920) (zck (zin (x1 - 73) 2920) (zst (zup M (zgr x0 49) (zix (x1 - 73)) (M (zgr x0 49) (zix x1))) (fun M1 => F_X12_keeps_L12 x0 K40 n (x1 + 1) M1)))))
    refine ev_iload_n dd_X12_keeps_12 1 rfl ?_
    refine ev_sipush (v := 2920) dd_X12_keeps_13 (by decide) ?_
    refine ev_icmp_ge 40 dd_X12_keeps_16 (by decide) ?_ ?_
    · refine ev_lv (lv' := [(0, .ref (G.2.1 + x0))]) [0] rfl ?_
      exact hK40 _
    · refine ev_aload_n dd_X12_keeps_19 0 rfl ?_
      refine ev_getR gf_RX12_93 dd_X12_keeps_20 hx0 (by decide) ?_
      refine ev_iload_n dd_X12_keeps_23 1 rfl ?_
      refine ev_bipush (v := 73) dd_X12_keeps_24 (by decide) ?_
      refine ev_isub dd_X12_keeps_26 ?_
      refine ev_aload_n dd_X12_keeps_27 0 rfl ?_
      refine ev_getR gf_RX12_93 dd_X12_keeps_28 hx0 (by decide) ?_
      refine ev_iload_n dd_X12_keeps_31 1 rfl ?_
      refine ev_iald dd_X12_keeps_32 ((zg_12_49 hx0).1) ((zg_12_49 hx0).2) ?_
      refine ev_iast dd_X12_keeps_33 ((zg_12_49 hx0).1) ((zg_12_49 hx0).2) ?_
      refine ev_st (fun M1 => ?_)
      refine ev_iinc (j := 1) (v := 1) (lv' := [(0, .ref (G.2.1 + x0)), (1, .int (x1 + 1))]) [1, 0] dd_X12_keeps_34 rfl (by decide) (by decide) rfl ?_
      refine ev_goto 12 dd_X12_keeps_37 (by decide) ?_
      exact ih _ _
set_option maxHeartbeats 1000000 in
set_option maxRecDepth 20000 in
theorem ct_X12_keeps_L52 (l : Launch) (hl : l.stackTraces = false) (G : zG) (x0 : Nat) (hx0 : zsh x0 = 12) (K84 : zM → zO) (hK84 : ∀  (M : zM), zEv l G Y_X12_keeps 1 0 84 [(0, .ref (G.2.1 + x0))] [] M (K84 M)) : ∀ (n : Nat) (x1 : Int32) (M : zM), zEv l G Y_X12_keeps 1 0 52 [(0, .ref (G.2.1 + x0)), (1, .int x1)] [] M (F_X12_keeps_L52 x0 K84 n x1 M) := by
  intro n
  induction n with
  | zero => intro x1 M; exact ev_none
  | succ n ih =>
    intro x1 M
    show zEv l G Y_X12_keeps 1 0 52 [(0, .ref (G.2.1 + x0)), (1, .int x1)] [] M (zit (73 ≤ x1) (K84 M) (zck (zin x1 73) (zck (zin ((73 * (M x0 50)) + x1) 2920) (zst (zup M (zgr x0 49) (zix ((73 * (M x0 50)) + x1)) (M (zgr x0 47) (zix x1))) (fun M5 => F_X12_keeps_L52 x0 K84 n (x1 + 1) M5)))))
    refine ev_iload_n dd_X12_keeps_52 1 rfl ?_
    refine ev_bipush (v := 73) dd_X12_keeps_53 (by decide) ?_
    refine ev_icmp_ge 84 dd_X12_keeps_55 (by decide) ?_ ?_
    · refine ev_lv (lv' := [(0, .ref (G.2.1 + x0))]) [0] rfl ?_
      exact hK84 _
    · refine ev_aload_n dd_X12_keeps_58 0 rfl ?_
      refine ev_getR gf_RX12_93 dd_X12_keeps_59 hx0 (by decide) ?_
      refine ev_bipush (v := 73) dd_X12_keeps_62 (by decide) ?_
      refine ev_aload_n dd_X12_keeps_64 0 rfl ?_
      refine ev_getI gf_RX12_329 dd_X12_keeps_65 hx0 (by decide) ?_
      refine ev_imul dd_X12_keeps_68 ?_
      refine ev_iload_n dd_X12_keeps_69 1 rfl ?_
      refine ev_iadd dd_X12_keeps_70 ?_
      refine ev_aload_n dd_X12_keeps_71 0 rfl ?_
      refine ev_getR gf_RX12_87 dd_X12_keeps_72 hx0 (by decide) ?_
      refine ev_iload_n dd_X12_keeps_75 1 rfl ?_
      refine ev_iald dd_X12_keeps_76 ((zg_12_47 hx0).1) ((zg_12_47 hx0).2) ?_
      refine ev_iast dd_X12_keeps_77 ((zg_12_49 hx0).1) ((zg_12_49 hx0).2) ?_
      refine ev_st (fun M5 => ?_)
      refine ev_iinc (j := 1) (v := 1) (lv' := [(0, .ref (G.2.1 + x0)), (1, .int (x1 + 1))]) [1, 0] dd_X12_keeps_78 rfl (by decide) (by decide) rfl ?_
      refine ev_goto 52 dd_X12_keeps_81 (by decide) ?_
      exact ih _ _
set_option maxHeartbeats 1000000 in
set_option maxRecDepth 20000 in
theorem ct_X12_keeps (l : Launch) (hl : l.stackTraces = false) (G : zG) (t : Nat) (ht : zsh t = 12) (M : zM) : zMt l G Y_X12_keeps 1 [.ref (G.2.1 + t)] M (F_X12_keeps t M) := by
  refine zMt_of (by decide +kernel) (Nat.le_of_ble_eq_true rfl) ?_
  show zEv l G Y_X12_keeps 1 0 0 [(0, .ref (G.2.1 + t))] [] M (zjo (fun  (M4 : zM) => F_X12_keeps_L52 t (fun  (M6 : zM) => zst (zup M6 t 50 ((M6 t 50) + 1)) (fun M7 => zV M7)) zN 0 M4) (fun (k1 : zM → zO) => zit ((M t 50) = 40) (F_X12_keeps_L12 t (fun  (M2 : zM) => zst (zup M2 t 50 ((M2 t 50) - 1)) (fun M3 => k1 M3)) zN 73 M) (k1 M)))
  refine ev_aload_n dd_X12_keeps_0 0 rfl ?_
  refine ev_getI gf_RX12_329 dd_X12_keeps_1 ht (by decide) ?_
  refine ev_bipush (v := 40) dd_X12_keeps_4 (by decide) ?_
  refine ev_jo (fun (k1 : zM → zO) => ∀  (M4 : zM), zEv l G Y_X12_keeps 1 0 50 [(0, .ref (G.2.1 + t))] [] M4 (k1 M4)) ?_ (fun k1 hk1 => ?_)
  · intro M4
    refine ev_iconst (v := 0) dd_X12_keeps_50 (by decide) ?_
    refine ev_istore_n (i := 1) (lv' := [(0, .ref (G.2.1 + t)), (1, .int 0)]) [1, 0] dd_X12_keeps_51 rfl (by decide) rfl ?_
    refine ct_X12_keeps_L52 l hl G t ht _ (fun M6 => ?_) zN _ _
    refine ev_aload_n dd_X12_keeps_84 0 rfl ?_
    refine ev_lv (lv' := []) [] rfl ?_
    refine ev_dup dd_X12_keeps_85 rfl ?_
    refine ev_getI gf_RX12_329 dd_X12_keeps_86 ht (by decide) ?_
    refine ev_iconst (v := 1) dd_X12_keeps_89 (by decide) ?_
    refine ev_iadd dd_X12_keeps_90 ?_
    refine ev_putI gw_RX12_329 dd_X12_keeps_91 ht (by decide) ?_
    refine ev_st (fun M7 => ?_)
    exact ev_vret dd_X12_keeps_94 rfl (Nat.le_of_ble_eq_true rfl) rfl
  · refine ev_icmp_ne 50 dd_X12_keeps_6 (by decide) ?_ ?_
    · exact hk1 _
    · refine ev_bipush (v := 73) dd_X12_keeps_9 (by decide) ?_
      refine ev_istore_n (i := 1) (lv' := [(0, .ref (G.2.1 + t)), (1, .int 73)]) [1, 0] dd_X12_keeps_11 rfl (by decide) rfl ?_
      refine ct_X12_keeps_L12 l hl G t ht _ (fun M2 => ?_) zN _ _
      refine ev_aload_n dd_X12_keeps_40 0 rfl ?_
      refine ev_dup dd_X12_keeps_41 rfl ?_
      refine ev_getI gf_RX12_329 dd_X12_keeps_42 ht (by decide) ?_
      refine ev_iconst (v := 1) dd_X12_keeps_45 (by decide) ?_
      refine ev_isub dd_X12_keeps_46 ?_
      refine ev_putI gw_RX12_329 dd_X12_keeps_47 ht (by decide) ?_
      refine ev_st (fun M3 => ?_)
      exact hk1 _
/-! X12_forgive -/
theorem dd_X12_forgive_0 : decode Y_X12_forgive.2.1 0 = .ok (.aload_n 0, 1) := by decide +kernel
theorem dd_X12_forgive_1 : decode Y_X12_forgive.2.1 1 = .ok (.iconst 0, 1) := by decide +kernel
theorem dd_X12_forgive_2 : decode Y_X12_forgive.2.1 2 = .ok (.putfield 153, 3) := by decide +kernel
theorem dd_X12_forgive_5 : decode Y_X12_forgive.2.1 5 = .ok (.aload_n 0, 1) := by decide +kernel
theorem dd_X12_forgive_6 : decode Y_X12_forgive.2.1 6 = .ok (.iload_n 1, 1) := by decide +kernel
theorem dd_X12_forgive_7 : decode Y_X12_forgive.2.1 7 = .ok (.iload_n 2, 1) := by decide +kernel
theorem dd_X12_forgive_8 : decode Y_X12_forgive.2.1 8 = .ok (.invokevirtual 357, 3) := by decide +kernel
theorem dd_X12_forgive_11 : decode Y_X12_forgive.2.1 11 = .ok (.ifCond .ne 5, 3) := by decide +kernel
theorem dd_X12_forgive_14 : decode Y_X12_forgive.2.1 14 = .ok (.iconst 0, 1) := by decide +kernel
theorem dd_X12_forgive_15 : decode Y_X12_forgive.2.1 15 = .ok (.ireturn, 1) := by decide +kernel
theorem dd_X12_forgive_16 : decode Y_X12_forgive.2.1 16 = .ok (.aload_n 0, 1) := by decide +kernel
theorem dd_X12_forgive_17 : decode Y_X12_forgive.2.1 17 = .ok (.invokevirtual 390, 3) := by decide +kernel
theorem dd_X12_forgive_20 : decode Y_X12_forgive.2.1 20 = .ok (.aload_n 0, 1) := by decide +kernel
theorem dd_X12_forgive_21 : decode Y_X12_forgive.2.1 21 = .ok (.getfield 87, 3) := by decide +kernel
theorem dd_X12_forgive_24 : decode Y_X12_forgive.2.1 24 = .ok (.bipush 8, 2) := by decide +kernel
theorem dd_X12_forgive_26 : decode Y_X12_forgive.2.1 26 = .ok (.bipush 8, 2) := by decide +kernel
theorem dd_X12_forgive_28 : decode Y_X12_forgive.2.1 28 = .ok (.iload_n 1, 1) := by decide +kernel
theorem dd_X12_forgive_29 : decode Y_X12_forgive.2.1 29 = .ok (.imul, 1) := by decide +kernel
theorem dd_X12_forgive_30 : decode Y_X12_forgive.2.1 30 = .ok (.iadd, 1) := by decide +kernel
theorem dd_X12_forgive_31 : decode Y_X12_forgive.2.1 31 = .ok (.iload_n 2, 1) := by decide +kernel
theorem dd_X12_forgive_32 : decode Y_X12_forgive.2.1 32 = .ok (.iadd, 1) := by decide +kernel
theorem dd_X12_forgive_33 : decode Y_X12_forgive.2.1 33 = .ok (.iaload, 1) := by decide +kernel
theorem dd_X12_forgive_34 : decode Y_X12_forgive.2.1 34 = .ok (.istore_n 3, 1) := by decide +kernel
theorem dd_X12_forgive_35 : decode Y_X12_forgive.2.1 35 = .ok (.aload_n 0, 1) := by decide +kernel
theorem dd_X12_forgive_36 : decode Y_X12_forgive.2.1 36 = .ok (.getfield 87, 3) := by decide +kernel
theorem dd_X12_forgive_39 : decode Y_X12_forgive.2.1 39 = .ok (.bipush 8, 2) := by decide +kernel
theorem dd_X12_forgive_41 : decode Y_X12_forgive.2.1 41 = .ok (.bipush 8, 2) := by decide +kernel
theorem dd_X12_forgive_43 : decode Y_X12_forgive.2.1 43 = .ok (.iload_n 1, 1) := by decide +kernel
theorem dd_X12_forgive_44 : decode Y_X12_forgive.2.1 44 = .ok (.imul, 1) := by decide +kernel
theorem dd_X12_forgive_45 : decode Y_X12_forgive.2.1 45 = .ok (.iadd, 1) := by decide +kernel
theorem dd_X12_forgive_46 : decode Y_X12_forgive.2.1 46 = .ok (.iload_n 2, 1) := by decide +kernel
theorem dd_X12_forgive_47 : decode Y_X12_forgive.2.1 47 = .ok (.iadd, 1) := by decide +kernel
theorem dd_X12_forgive_48 : decode Y_X12_forgive.2.1 48 = .ok (.iconst 0, 1) := by decide +kernel
theorem dd_X12_forgive_49 : decode Y_X12_forgive.2.1 49 = .ok (.iastore, 1) := by decide +kernel
theorem dd_X12_forgive_50 : decode Y_X12_forgive.2.1 50 = .ok (.aload_n 0, 1) := by decide +kernel
theorem dd_X12_forgive_51 : decode Y_X12_forgive.2.1 51 = .ok (.getfield 87, 3) := by decide +kernel
theorem dd_X12_forgive_54 : decode Y_X12_forgive.2.1 54 = .ok (.bipush 8, 2) := by decide +kernel
theorem dd_X12_forgive_56 : decode Y_X12_forgive.2.1 56 = .ok (.bipush 8, 2) := by decide +kernel
theorem dd_X12_forgive_58 : decode Y_X12_forgive.2.1 58 = .ok (.iload_n 2, 1) := by decide +kernel
theorem dd_X12_forgive_59 : decode Y_X12_forgive.2.1 59 = .ok (.imul, 1) := by decide +kernel
theorem dd_X12_forgive_60 : decode Y_X12_forgive.2.1 60 = .ok (.iadd, 1) := by decide +kernel
theorem dd_X12_forgive_61 : decode Y_X12_forgive.2.1 61 = .ok (.iload_n 1, 1) := by decide +kernel
theorem dd_X12_forgive_62 : decode Y_X12_forgive.2.1 62 = .ok (.iadd, 1) := by decide +kernel
theorem dd_X12_forgive_63 : decode Y_X12_forgive.2.1 63 = .ok (.iconst 0, 1) := by decide +kernel
theorem dd_X12_forgive_64 : decode Y_X12_forgive.2.1 64 = .ok (.iastore, 1) := by decide +kernel
theorem dd_X12_forgive_65 : decode Y_X12_forgive.2.1 65 = .ok (.iload_n 3, 1) := by decide +kernel
theorem dd_X12_forgive_66 : decode Y_X12_forgive.2.1 66 = .ok (.ireturn, 1) := by decide +kernel
def F_X12_forgive (t : Nat) (a1 : Int32) (a2 : Int32) (M : zM) : zO := zst (zup M t 0 0) (fun M1 => zbI (F_X12_areTwo t a1 a2 M1) (fun r1 M2 => zit (r1 = 0) (zI 0 M2) (zbV (F_X12_keeps t M2) (fun M3 => zck (zin ((8 + (8 * a1)) + a2) 73) (zlt (M3 (zgr t 47) (zix ((8 + (8 * a1)) + a2))) (fun v1 => zck (zin ((8 + (8 * a1)) + a2) 73) (zst (zup M3 (zgr t 47) (zix ((8 + (8 * a1)) + a2)) 0) (fun M4 => zck (zin ((8 + (8 * a2)) + a1) 73) (zst (zup M4 (zgr t 47) (zix ((8 + (8 * a2)) + a1)) 0) (fun M5 => zI v1 M5))))))))))
set_option maxHeartbeats 1000000 in
set_option maxRecDepth 20000 in
theorem ct_X12_forgive (l : Launch) (hl : l.stackTraces = false) (G : zG) (t : Nat) (ht : zsh t = 12) (a1 : Int32) (a2 : Int32) (M : zM) : zMt l G Y_X12_forgive 4 [.ref (G.2.1 + t), .int a1, .int a2] M (F_X12_forgive t a1 a2 M) := by
  refine zMt_of (by decide +kernel) (Nat.le_of_ble_eq_true rfl) ?_
  show zEv l G Y_X12_forgive 4 0 0 [(0, .ref (G.2.1 + t)), (1, .int a1), (2, .int a2)] [] M (zst (zup M t 0 0) (fun M1 => zbI (F_X12_areTwo t a1 a2 M1) (fun r1 M2 => zit (r1 = 0) (zI 0 M2) (zbV (F_X12_keeps t M2) (fun M3 => zck (zin ((8 + (8 * a1)) + a2) 73) (zlt (M3 (zgr t 47) (zix ((8 + (8 * a1)) + a2))) (fun v1 => zck (zin ((8 + (8 * a1)) + a2) 73) (zst (zup M3 (zgr t 47) (zix ((8 + (8 * a1)) + a2)) 0) (fun M4 => zck (zin ((8 + (8 * a2)) + a1) 73) (zst (zup M4 (zgr t 47) (zix ((8 + (8 * a2)) + a1)) 0) (fun M5 => zI v1 M5)))))))))))
  refine ev_aload_n dd_X12_forgive_0 0 rfl ?_
  refine ev_iconst (v := 0) dd_X12_forgive_1 (by decide) ?_
  refine ev_putI gw_RX12_153 dd_X12_forgive_2 ht (by decide) ?_
  refine ev_st (fun M1 => ?_)
  refine ev_aload_n dd_X12_forgive_5 0 rfl ?_
  refine ev_iload_n dd_X12_forgive_6 1 rfl ?_
  refine ev_iload_n dd_X12_forgive_7 2 rfl ?_
  refine ev_callVI (As := [.int a1, .int a2]) cl_RX12_357 (ct_X12_areTwo l hl G t ht a1 a2 M1) dd_X12_forgive_8 ht (by decide) (Nat.le_of_ble_eq_true rfl) (Nat.le_of_ble_eq_true rfl) rfl rfl (fun r1 M2 => ?_)
  refine ev_if_ne 16 dd_X12_forgive_11 (by decide) ?_ ?_
  · refine ev_aload_n dd_X12_forgive_16 0 rfl ?_
    refine ev_callVV (As := []) cl_RX12_390 (ct_X12_keeps l hl G t ht M2) dd_X12_forgive_17 ht (by decide) (Nat.le_of_ble_eq_true rfl) (Nat.le_of_ble_eq_true rfl) rfl rfl (fun M3 => ?_)
    refine ev_aload_n dd_X12_forgive_20 0 rfl ?_
    refine ev_getR gf_RX12_87 dd_X12_forgive_21 ht (by decide) ?_
    refine ev_bipush (v := 8) dd_X12_forgive_24 (by decide) ?_
    refine ev_bipush (v := 8) dd_X12_forgive_26 (by decide) ?_
    refine ev_iload_n dd_X12_forgive_28 1 rfl ?_
    refine ev_imul dd_X12_forgive_29 ?_
    refine ev_iadd dd_X12_forgive_30 ?_
    refine ev_iload_n dd_X12_forgive_31 2 rfl ?_
    refine ev_iadd dd_X12_forgive_32 ?_
    refine ev_iald dd_X12_forgive_33 ((zg_12_47 ht).1) ((zg_12_47 ht).2) ?_
    refine ev_topi (fun v1 => ?_)
    refine ev_istore_n (i := 3) (lv' := [(0, .ref (G.2.1 + t)), (1, .int a1), (2, .int a2), (3, .int v1)]) [1, 2, 3, 0] dd_X12_forgive_34 rfl (by decide) rfl ?_
    refine ev_aload_n dd_X12_forgive_35 0 rfl ?_
    refine ev_getR gf_RX12_87 dd_X12_forgive_36 ht (by decide) ?_
    refine ev_bipush (v := 8) dd_X12_forgive_39 (by decide) ?_
    refine ev_bipush (v := 8) dd_X12_forgive_41 (by decide) ?_
    refine ev_iload_n dd_X12_forgive_43 1 rfl ?_
    refine ev_imul dd_X12_forgive_44 ?_
    refine ev_iadd dd_X12_forgive_45 ?_
    refine ev_iload_n dd_X12_forgive_46 2 rfl ?_
    refine ev_iadd dd_X12_forgive_47 ?_
    refine ev_iconst (v := 0) dd_X12_forgive_48 (by decide) ?_
    refine ev_iast dd_X12_forgive_49 ((zg_12_47 ht).1) ((zg_12_47 ht).2) ?_
    refine ev_st (fun M4 => ?_)
    refine ev_aload_n dd_X12_forgive_50 0 rfl ?_
    refine ev_lv (lv' := [(1, .int a1), (2, .int a2), (3, .int v1)]) [1, 2, 3] rfl ?_
    refine ev_getR gf_RX12_87 dd_X12_forgive_51 ht (by decide) ?_
    refine ev_bipush (v := 8) dd_X12_forgive_54 (by decide) ?_
    refine ev_bipush (v := 8) dd_X12_forgive_56 (by decide) ?_
    refine ev_iload_n dd_X12_forgive_58 1 rfl ?_
    refine ev_lv (lv' := [(1, .int a1), (3, .int v1)]) [0, 2] rfl ?_
    refine ev_imul dd_X12_forgive_59 ?_
    refine ev_iadd dd_X12_forgive_60 ?_
    refine ev_iload_n dd_X12_forgive_61 0 rfl ?_
    refine ev_lv (lv' := [(3, .int v1)]) [1] rfl ?_
    refine ev_iadd dd_X12_forgive_62 ?_
    refine ev_iconst (v := 0) dd_X12_forgive_63 (by decide) ?_
    refine ev_iast dd_X12_forgive_64 ((zg_12_47 ht).1) ((zg_12_47 ht).2) ?_
    refine ev_st (fun M5 => ?_)
    refine ev_iload_n dd_X12_forgive_65 0 rfl ?_
    refine ev_lv (lv' := []) [] rfl ?_
    exact ev_iret dd_X12_forgive_66 rfl (Nat.le_of_ble_eq_true rfl) rfl
  · refine ev_lv (lv' := []) [] rfl ?_
    refine ev_iconst (v := 0) dd_X12_forgive_14 (by decide) ?_
    exact ev_iret dd_X12_forgive_15 rfl (Nat.le_of_ble_eq_true rfl) rfl
/-! X12_rank -/
theorem dd_X12_rank_0 : decode Y_X12_rank.2.1 0 = .ok (.iconst 0, 1) := by decide +kernel
theorem dd_X12_rank_1 : decode Y_X12_rank.2.1 1 = .ok (.istore_n 3, 1) := by decide +kernel
theorem dd_X12_rank_2 : decode Y_X12_rank.2.1 2 = .ok (.iload_n 3, 1) := by decide +kernel
theorem dd_X12_rank_3 : decode Y_X12_rank.2.1 3 = .ok (.aload_n 0, 1) := by decide +kernel
theorem dd_X12_rank_4 : decode Y_X12_rank.2.1 4 = .ok (.getfield 35, 3) := by decide +kernel
theorem dd_X12_rank_7 : decode Y_X12_rank.2.1 7 = .ok (.iload_n 1, 1) := by decide +kernel
theorem dd_X12_rank_8 : decode Y_X12_rank.2.1 8 = .ok (.iaload, 1) := by decide +kernel
theorem dd_X12_rank_9 : decode Y_X12_rank.2.1 9 = .ok (.if_icmp .ge 26, 3) := by decide +kernel
theorem dd_X12_rank_12 : decode Y_X12_rank.2.1 12 = .ok (.aload_n 0, 1) := by decide +kernel
theorem dd_X12_rank_13 : decode Y_X12_rank.2.1 13 = .ok (.getfield 32, 3) := by decide +kernel
theorem dd_X12_rank_16 : decode Y_X12_rank.2.1 16 = .ok (.bipush 8, 2) := by decide +kernel
theorem dd_X12_rank_18 : decode Y_X12_rank.2.1 18 = .ok (.iload_n 1, 1) := by decide +kernel
theorem dd_X12_rank_19 : decode Y_X12_rank.2.1 19 = .ok (.imul, 1) := by decide +kernel
theorem dd_X12_rank_20 : decode Y_X12_rank.2.1 20 = .ok (.iload_n 3, 1) := by decide +kernel
theorem dd_X12_rank_21 : decode Y_X12_rank.2.1 21 = .ok (.iadd, 1) := by decide +kernel
theorem dd_X12_rank_22 : decode Y_X12_rank.2.1 22 = .ok (.iaload, 1) := by decide +kernel
theorem dd_X12_rank_23 : decode Y_X12_rank.2.1 23 = .ok (.iload_n 2, 1) := by decide +kernel
theorem dd_X12_rank_24 : decode Y_X12_rank.2.1 24 = .ok (.if_icmp .ne 5, 3) := by decide +kernel
theorem dd_X12_rank_27 : decode Y_X12_rank.2.1 27 = .ok (.iload_n 3, 1) := by decide +kernel
theorem dd_X12_rank_28 : decode Y_X12_rank.2.1 28 = .ok (.ireturn, 1) := by decide +kernel
theorem dd_X12_rank_29 : decode Y_X12_rank.2.1 29 = .ok (.iinc 3 1, 3) := by decide +kernel
theorem dd_X12_rank_32 : decode Y_X12_rank.2.1 32 = .ok (.goto (-30), 3) := by decide +kernel
theorem dd_X12_rank_35 : decode Y_X12_rank.2.1 35 = .ok (.aload_n 0, 1) := by decide +kernel
theorem dd_X12_rank_36 : decode Y_X12_rank.2.1 36 = .ok (.getfield 87, 3) := by decide +kernel
theorem dd_X12_rank_39 : decode Y_X12_rank.2.1 39 = .ok (.iload_n 1, 1) := by decide +kernel
theorem dd_X12_rank_40 : decode Y_X12_rank.2.1 40 = .ok (.iaload, 1) := by decide +kernel
theorem dd_X12_rank_41 : decode Y_X12_rank.2.1 41 = .ok (.iload_n 2, 1) := by decide +kernel
theorem dd_X12_rank_42 : decode Y_X12_rank.2.1 42 = .ok (.if_icmp .ne 8, 3) := by decide +kernel
theorem dd_X12_rank_45 : decode Y_X12_rank.2.1 45 = .ok (.bipush 50, 2) := by decide +kernel
theorem dd_X12_rank_47 : decode Y_X12_rank.2.1 47 = .ok (.goto 5, 3) := by decide +kernel
theorem dd_X12_rank_50 : decode Y_X12_rank.2.1 50 = .ok (.bipush 99, 2) := by decide +kernel
theorem dd_X12_rank_52 : decode Y_X12_rank.2.1 52 = .ok (.ireturn, 1) := by decide +kernel
def F_X12_rank_L2 (x0 : Nat) (x1 : Int32) (x2 : Int32) (K35 : zM → zO) : Nat → Int32 → zM → zO
  | 0, _, _ => none
  | n + 1, x3, M => zck (zin x1 8) (zit ((M (zgr x0 11) (zix x1)) ≤ x3) (K35 M) (zck (zin ((8 * x1) + x3) 64) (zit ((M (zgr x0 10) (zix ((8 * x1) + x3))) = x2) (zI x3 M) (F_X12_rank_L2 x0 x1 x2 K35 n (x3 + 1) M))))
def F_X12_rank (t : Nat) (a1 : Int32) (a2 : Int32) (M : zM) : zO := F_X12_rank_L2 t a1 a2 (fun  (M1 : zM) => zck (zin a1 73) (zjo (fun (w1 : Int32) (M2 : zM) => zI w1 M2) (fun (k1 : Int32 → zM → zO) => zit ((M1 (zgr t 47) (zix a1)) = a2) (k1 50 M1) (k1 99 M1)))) zN 0 M
set_option maxHeartbeats 1000000 in
set_option maxRecDepth 20000 in
theorem ct_X12_rank_L2 (l : Launch) (hl : l.stackTraces = false) (G : zG) (x0 : Nat) (hx0 : zsh x0 = 12) (x1 : Int32) (x2 : Int32) (K35 : zM → zO) (hK35 : ∀  (M : zM), zEv l G Y_X12_rank 1 0 35 [(0, .ref (G.2.1 + x0)), (1, .int x1), (2, .int x2)] [] M (K35 M)) : ∀ (n : Nat) (x3 : Int32) (M : zM), zEv l G Y_X12_rank 1 0 2 [(0, .ref (G.2.1 + x0)), (1, .int x1), (2, .int x2), (3, .int x3)] [] M (F_X12_rank_L2 x0 x1 x2 K35 n x3 M) := by
  intro n
  induction n with
  | zero => intro x3 M; exact ev_none
  | succ n ih =>
    intro x3 M
    show zEv l G Y_X12_rank 1 0 2 [(0, .ref (G.2.1 + x0)), (1, .int x1), (2, .int x2), (3, .int x3)] [] M (zck (zin x1 8) (zit ((M (zgr x0 11) (zix x1)) ≤ x3) (K35 M) (zck (zin ((8 * x1) + x3) 64) (zit ((M (zgr x0 10) (zix ((8 * x1) + x3))) = x2) (zI x3 M) (F_X12_rank_L2 x0 x1 x2 K35 n (x3 + 1) M)))))
    refine ev_iload_n dd_X12_rank_2 3 rfl ?_
    refine ev_aload_n dd_X12_rank_3 0 rfl ?_
    refine ev_getR gf_RX12_35 dd_X12_rank_4 hx0 (by decide) ?_
    refine ev_iload_n dd_X12_rank_7 1 rfl ?_
    refine ev_iald dd_X12_rank_8 ((zg_12_11 hx0).1) ((zg_12_11 hx0).2) ?_
    refine ev_icmp_ge 35 dd_X12_rank_9 (by decide) ?_ ?_
    · refine ev_lv (lv' := [(0, .ref (G.2.1 + x0)), (1, .int x1), (2, .int x2)]) [0, 1, 2] rfl ?_
      exact hK35 _
    · refine ev_aload_n dd_X12_rank_12 0 rfl ?_
      refine ev_getR gf_RX12_32 dd_X12_rank_13 hx0 (by decide) ?_
      refine ev_bipush (v := 8) dd_X12_rank_16 (by decide) ?_
      refine ev_iload_n dd_X12_rank_18 1 rfl ?_
      refine ev_imul dd_X12_rank_19 ?_
      refine ev_iload_n dd_X12_rank_20 3 rfl ?_
      refine ev_iadd dd_X12_rank_21 ?_
      refine ev_iald dd_X12_rank_22 ((zg_12_10 hx0).1) ((zg_12_10 hx0).2) ?_
      refine ev_iload_n dd_X12_rank_23 2 rfl ?_
      refine ev_icmp_ne 29 dd_X12_rank_24 (by decide) ?_ ?_
      · refine ev_iinc (j := 3) (v := 1) (lv' := [(0, .ref (G.2.1 + x0)), (1, .int x1), (2, .int x2), (3, .int (x3 + 1))]) [1, 2, 3, 0] dd_X12_rank_29 rfl (by decide) (by decide) rfl ?_
        refine ev_goto 2 dd_X12_rank_32 (by decide) ?_
        exact ih _ _
      · refine ev_lv (lv' := [(3, .int x3)]) [3] rfl ?_
        refine ev_iload_n dd_X12_rank_27 0 rfl ?_
        refine ev_lv (lv' := []) [] rfl ?_
        exact ev_iret dd_X12_rank_28 rfl (Nat.le_of_ble_eq_true rfl) rfl
set_option maxHeartbeats 1000000 in
set_option maxRecDepth 20000 in
theorem ct_X12_rank (l : Launch) (hl : l.stackTraces = false) (G : zG) (t : Nat) (ht : zsh t = 12) (a1 : Int32) (a2 : Int32) (M : zM) : zMt l G Y_X12_rank 1 [.ref (G.2.1 + t), .int a1, .int a2] M (F_X12_rank t a1 a2 M) := by
  refine zMt_of (by decide +kernel) (Nat.le_of_ble_eq_true rfl) ?_
  show zEv l G Y_X12_rank 1 0 0 [(0, .ref (G.2.1 + t)), (1, .int a1), (2, .int a2)] [] M (F_X12_rank_L2 t a1 a2 (fun  (M1 : zM) => zck (zin a1 73) (zjo (fun (w1 : Int32) (M2 : zM) => zI w1 M2) (fun (k1 : Int32 → zM → zO) => zit ((M1 (zgr t 47) (zix a1)) = a2) (k1 50 M1) (k1 99 M1)))) zN 0 M)
  refine ev_iconst (v := 0) dd_X12_rank_0 (by decide) ?_
  refine ev_istore_n (i := 3) (lv' := [(0, .ref (G.2.1 + t)), (1, .int a1), (2, .int a2), (3, .int 0)]) [1, 2, 3, 0] dd_X12_rank_1 rfl (by decide) rfl ?_
  refine ct_X12_rank_L2 l hl G t ht a1 a2 _ (fun M1 => ?_) zN _ _
  refine ev_aload_n dd_X12_rank_35 0 rfl ?_
  refine ev_lv (lv' := [(1, .int a1), (2, .int a2)]) [1, 2] rfl ?_
  refine ev_getR gf_RX12_87 dd_X12_rank_36 ht (by decide) ?_
  refine ev_iload_n dd_X12_rank_39 0 rfl ?_
  refine ev_lv (lv' := [(2, .int a2)]) [1] rfl ?_
  refine ev_iald dd_X12_rank_40 ((zg_12_47 ht).1) ((zg_12_47 ht).2) ?_
  refine ev_iload_n dd_X12_rank_41 0 rfl ?_
  refine ev_lv (lv' := []) [] rfl ?_
  refine ev_jo (fun (k1 : Int32 → zM → zO) => ∀ (w1 : Int32) (M2 : zM), zEv l G Y_X12_rank 1 0 52 [] [.int w1] M2 (k1 w1 M2)) ?_ (fun k1 hk1 => ?_)
  · intro w1 M2
    exact ev_iret dd_X12_rank_52 rfl (Nat.le_of_ble_eq_true rfl) rfl
  · refine ev_icmp_ne 50 dd_X12_rank_42 (by decide) ?_ ?_
    · refine ev_bipush (v := 99) dd_X12_rank_50 (by decide) ?_
      exact hk1 _ _
    · refine ev_bipush (v := 50) dd_X12_rank_45 (by decide) ?_
      refine ev_goto 52 dd_X12_rank_47 (by decide) ?_
      exact hk1 _ _
/-! X12_likes -/
theorem dd_X12_likes_0 : decode Y_X12_likes.2.1 0 = .ok (.aload_n 0, 1) := by decide +kernel
theorem dd_X12_likes_1 : decode Y_X12_likes.2.1 1 = .ok (.iload_n 1, 1) := by decide +kernel
theorem dd_X12_likes_2 : decode Y_X12_likes.2.1 2 = .ok (.iload_n 2, 1) := by decide +kernel
theorem dd_X12_likes_3 : decode Y_X12_likes.2.1 3 = .ok (.invokevirtual 397, 3) := by decide +kernel
theorem dd_X12_likes_6 : decode Y_X12_likes.2.1 6 = .ok (.aload_n 0, 1) := by decide +kernel
theorem dd_X12_likes_7 : decode Y_X12_likes.2.1 7 = .ok (.iload_n 1, 1) := by decide +kernel
theorem dd_X12_likes_8 : decode Y_X12_likes.2.1 8 = .ok (.iload_n 3, 1) := by decide +kernel
theorem dd_X12_likes_9 : decode Y_X12_likes.2.1 9 = .ok (.invokevirtual 397, 3) := by decide +kernel
theorem dd_X12_likes_12 : decode Y_X12_likes.2.1 12 = .ok (.if_icmp .ge 7, 3) := by decide +kernel
theorem dd_X12_likes_15 : decode Y_X12_likes.2.1 15 = .ok (.iconst 1, 1) := by decide +kernel
theorem dd_X12_likes_16 : decode Y_X12_likes.2.1 16 = .ok (.goto 4, 3) := by decide +kernel
theorem dd_X12_likes_19 : decode Y_X12_likes.2.1 19 = .ok (.iconst 0, 1) := by decide +kernel
theorem dd_X12_likes_20 : decode Y_X12_likes.2.1 20 = .ok (.ireturn, 1) := by decide +kernel
def F_X12_likes (t : Nat) (a1 : Int32) (a2 : Int32) (a3 : Int32) (M : zM) : zO := zbI (F_X12_rank t a1 a2 M) (fun r1 M1 => zbI (F_X12_rank t a1 a3 M1) (fun r2 M2 => zjo (fun (w1 : Int32) (M3 : zM) => zck (zbo w1) (zI w1 M3)) (fun (k1 : Int32 → zM → zO) => zit (r2 ≤ r1) (k1 0 M2) (k1 1 M2))))
set_option maxHeartbeats 1000000 in
set_option maxRecDepth 20000 in
theorem ct_X12_likes (l : Launch) (hl : l.stackTraces = false) (G : zG) (t : Nat) (ht : zsh t = 12) (a1 : Int32) (a2 : Int32) (a3 : Int32) (M : zM) : zMt l G Y_X12_likes 2 [.ref (G.2.1 + t), .int a1, .int a2, .int a3] M (F_X12_likes t a1 a2 a3 M) := by
  refine zMt_of (by decide +kernel) (Nat.le_of_ble_eq_true rfl) ?_
  show zEv l G Y_X12_likes 2 0 0 [(0, .ref (G.2.1 + t)), (1, .int a1), (2, .int a2), (3, .int a3)] [] M (zbI (F_X12_rank t a1 a2 M) (fun r1 M1 => zbI (F_X12_rank t a1 a3 M1) (fun r2 M2 => zjo (fun (w1 : Int32) (M3 : zM) => zck (zbo w1) (zI w1 M3)) (fun (k1 : Int32 → zM → zO) => zit (r2 ≤ r1) (k1 0 M2) (k1 1 M2)))))
  refine ev_aload_n dd_X12_likes_0 0 rfl ?_
  refine ev_iload_n dd_X12_likes_1 1 rfl ?_
  refine ev_iload_n dd_X12_likes_2 2 rfl ?_
  refine ev_lv (lv' := [(0, .ref (G.2.1 + t)), (1, .int a1), (3, .int a3)]) [0, 1, 3] rfl ?_
  refine ev_callVI (As := [.int a1, .int a2]) cl_RX12_397 (ct_X12_rank l hl G t ht a1 a2 M) dd_X12_likes_3 ht (by decide) (Nat.le_of_ble_eq_true rfl) (Nat.le_of_ble_eq_true rfl) rfl rfl (fun r1 M1 => ?_)
  refine ev_aload_n dd_X12_likes_6 0 rfl ?_
  refine ev_lv (lv' := [(1, .int a1), (3, .int a3)]) [1, 2] rfl ?_
  refine ev_iload_n dd_X12_likes_7 0 rfl ?_
  refine ev_lv (lv' := [(3, .int a3)]) [1] rfl ?_
  refine ev_iload_n dd_X12_likes_8 0 rfl ?_
  refine ev_lv (lv' := []) [] rfl ?_
  refine ev_callVI (As := [.int a1, .int a3]) cl_RX12_397 (ct_X12_rank l hl G t ht a1 a3 M1) dd_X12_likes_9 ht (by decide) (Nat.le_of_ble_eq_true rfl) (Nat.le_of_ble_eq_true rfl) rfl rfl (fun r2 M2 => ?_)
  refine ev_jo (fun (k1 : Int32 → zM → zO) => ∀ (w1 : Int32) (M3 : zM), zEv l G Y_X12_likes 2 0 20 [] [.int w1] M3 (k1 w1 M3)) ?_ (fun k1 hk1 => ?_)
  · intro w1 M3
    exact ev_zret dd_X12_likes_20 rfl (Nat.le_of_ble_eq_true rfl) rfl
  · refine ev_icmp_ge 19 dd_X12_likes_12 (by decide) ?_ ?_
    · refine ev_iconst (v := 0) dd_X12_likes_19 (by decide) ?_
      exact hk1 _ _
    · refine ev_iconst (v := 1) dd_X12_likes_15 (by decide) ?_
      refine ev_goto 20 dd_X12_likes_16 (by decide) ?_
      exact hk1 _ _
/-! X12_glad -/
theorem dd_X12_glad_0 : decode Y_X12_glad.2.1 0 = .ok (.aload_n 0, 1) := by decide +kernel
theorem dd_X12_glad_1 : decode Y_X12_glad.2.1 1 = .ok (.iconst 0, 1) := by decide +kernel
theorem dd_X12_glad_2 : decode Y_X12_glad.2.1 2 = .ok (.putfield 153, 3) := by decide +kernel
theorem dd_X12_glad_5 : decode Y_X12_glad.2.1 5 = .ok (.aload_n 0, 1) := by decide +kernel
theorem dd_X12_glad_6 : decode Y_X12_glad.2.1 6 = .ok (.iload_n 1, 1) := by decide +kernel
theorem dd_X12_glad_7 : decode Y_X12_glad.2.1 7 = .ok (.iconst 1, 1) := by decide +kernel
theorem dd_X12_glad_8 : decode Y_X12_glad.2.1 8 = .ok (.invokevirtual 349, 3) := by decide +kernel
theorem dd_X12_glad_11 : decode Y_X12_glad.2.1 11 = .ok (.ifCond .ne 5, 3) := by decide +kernel
theorem dd_X12_glad_14 : decode Y_X12_glad.2.1 14 = .ok (.iconst 0, 1) := by decide +kernel
theorem dd_X12_glad_15 : decode Y_X12_glad.2.1 15 = .ok (.ireturn, 1) := by decide +kernel
theorem dd_X12_glad_16 : decode Y_X12_glad.2.1 16 = .ok (.iconst 0, 1) := by decide +kernel
theorem dd_X12_glad_17 : decode Y_X12_glad.2.1 17 = .ok (.istore_n 2, 1) := by decide +kernel
theorem dd_X12_glad_18 : decode Y_X12_glad.2.1 18 = .ok (.iconst (-1), 1) := by decide +kernel
theorem dd_X12_glad_19 : decode Y_X12_glad.2.1 19 = .ok (.istore_n 3, 1) := by decide +kernel
theorem dd_X12_glad_20 : decode Y_X12_glad.2.1 20 = .ok (.iconst 0, 1) := by decide +kernel
theorem dd_X12_glad_21 : decode Y_X12_glad.2.1 21 = .ok (.istore 4, 2) := by decide +kernel
theorem dd_X12_glad_23 : decode Y_X12_glad.2.1 23 = .ok (.iload 4, 2) := by decide +kernel
theorem dd_X12_glad_25 : decode Y_X12_glad.2.1 25 = .ok (.aload_n 0, 1) := by decide +kernel
theorem dd_X12_glad_26 : decode Y_X12_glad.2.1 26 = .ok (.getfield 319, 3) := by decide +kernel
theorem dd_X12_glad_29 : decode Y_X12_glad.2.1 29 = .ok (.if_icmp .ge 96, 3) := by decide +kernel
theorem dd_X12_glad_32 : decode Y_X12_glad.2.1 32 = .ok (.iload 4, 2) := by decide +kernel
theorem dd_X12_glad_34 : decode Y_X12_glad.2.1 34 = .ok (.iconst 1, 1) := by decide +kernel
theorem dd_X12_glad_35 : decode Y_X12_glad.2.1 35 = .ok (.iadd, 1) := by decide +kernel
theorem dd_X12_glad_36 : decode Y_X12_glad.2.1 36 = .ok (.istore 5, 2) := by decide +kernel
theorem dd_X12_glad_38 : decode Y_X12_glad.2.1 38 = .ok (.iload 5, 2) := by decide +kernel
theorem dd_X12_glad_40 : decode Y_X12_glad.2.1 40 = .ok (.aload_n 0, 1) := by decide +kernel
theorem dd_X12_glad_41 : decode Y_X12_glad.2.1 41 = .ok (.getfield 319, 3) := by decide +kernel
theorem dd_X12_glad_44 : decode Y_X12_glad.2.1 44 = .ok (.if_icmp .ge 75, 3) := by decide +kernel
theorem dd_X12_glad_47 : decode Y_X12_glad.2.1 47 = .ok (.aload_n 0, 1) := by decide +kernel
theorem dd_X12_glad_48 : decode Y_X12_glad.2.1 48 = .ok (.iload 4, 2) := by decide +kernel
theorem dd_X12_glad_50 : decode Y_X12_glad.2.1 50 = .ok (.aload_n 0, 1) := by decide +kernel
theorem dd_X12_glad_51 : decode Y_X12_glad.2.1 51 = .ok (.getfield 87, 3) := by decide +kernel
theorem dd_X12_glad_54 : decode Y_X12_glad.2.1 54 = .ok (.iload 5, 2) := by decide +kernel
theorem dd_X12_glad_56 : decode Y_X12_glad.2.1 56 = .ok (.iaload, 1) := by decide +kernel
theorem dd_X12_glad_57 : decode Y_X12_glad.2.1 57 = .ok (.aload_n 0, 1) := by decide +kernel
theorem dd_X12_glad_58 : decode Y_X12_glad.2.1 58 = .ok (.getfield 87, 3) := by decide +kernel
theorem dd_X12_glad_61 : decode Y_X12_glad.2.1 61 = .ok (.iload 4, 2) := by decide +kernel
theorem dd_X12_glad_63 : decode Y_X12_glad.2.1 63 = .ok (.iaload, 1) := by decide +kernel
theorem dd_X12_glad_64 : decode Y_X12_glad.2.1 64 = .ok (.invokevirtual 400, 3) := by decide +kernel
theorem dd_X12_glad_67 : decode Y_X12_glad.2.1 67 = .ok (.ifCond .eq 46, 3) := by decide +kernel
theorem dd_X12_glad_70 : decode Y_X12_glad.2.1 70 = .ok (.aload_n 0, 1) := by decide +kernel
theorem dd_X12_glad_71 : decode Y_X12_glad.2.1 71 = .ok (.iload 5, 2) := by decide +kernel
theorem dd_X12_glad_73 : decode Y_X12_glad.2.1 73 = .ok (.aload_n 0, 1) := by decide +kernel
theorem dd_X12_glad_74 : decode Y_X12_glad.2.1 74 = .ok (.getfield 87, 3) := by decide +kernel
theorem dd_X12_glad_77 : decode Y_X12_glad.2.1 77 = .ok (.iload 4, 2) := by decide +kernel
theorem dd_X12_glad_79 : decode Y_X12_glad.2.1 79 = .ok (.iaload, 1) := by decide +kernel
theorem dd_X12_glad_80 : decode Y_X12_glad.2.1 80 = .ok (.aload_n 0, 1) := by decide +kernel
theorem dd_X12_glad_81 : decode Y_X12_glad.2.1 81 = .ok (.getfield 87, 3) := by decide +kernel
theorem dd_X12_glad_84 : decode Y_X12_glad.2.1 84 = .ok (.iload 5, 2) := by decide +kernel
theorem dd_X12_glad_86 : decode Y_X12_glad.2.1 86 = .ok (.iaload, 1) := by decide +kernel
theorem dd_X12_glad_87 : decode Y_X12_glad.2.1 87 = .ok (.invokevirtual 400, 3) := by decide +kernel
theorem dd_X12_glad_90 : decode Y_X12_glad.2.1 90 = .ok (.ifCond .ne 6, 3) := by decide +kernel
theorem dd_X12_glad_93 : decode Y_X12_glad.2.1 93 = .ok (.goto 20, 3) := by decide +kernel
theorem dd_X12_glad_96 : decode Y_X12_glad.2.1 96 = .ok (.iinc 2 1, 3) := by decide +kernel
theorem dd_X12_glad_99 : decode Y_X12_glad.2.1 99 = .ok (.iload_n 3, 1) := by decide +kernel
theorem dd_X12_glad_100 : decode Y_X12_glad.2.1 100 = .ok (.iconst (-1), 1) := by decide +kernel
theorem dd_X12_glad_101 : decode Y_X12_glad.2.1 101 = .ok (.if_icmp .ne 12, 3) := by decide +kernel
theorem dd_X12_glad_104 : decode Y_X12_glad.2.1 104 = .ok (.bipush 10, 2) := by decide +kernel
theorem dd_X12_glad_106 : decode Y_X12_glad.2.1 106 = .ok (.iload 4, 2) := by decide +kernel
theorem dd_X12_glad_108 : decode Y_X12_glad.2.1 108 = .ok (.imul, 1) := by decide +kernel
theorem dd_X12_glad_109 : decode Y_X12_glad.2.1 109 = .ok (.iload 5, 2) := by decide +kernel
theorem dd_X12_glad_111 : decode Y_X12_glad.2.1 111 = .ok (.iadd, 1) := by decide +kernel
theorem dd_X12_glad_112 : decode Y_X12_glad.2.1 112 = .ok (.istore_n 3, 1) := by decide +kernel
theorem dd_X12_glad_113 : decode Y_X12_glad.2.1 113 = .ok (.iinc 5 1, 3) := by decide +kernel
theorem dd_X12_glad_116 : decode Y_X12_glad.2.1 116 = .ok (.goto (-78), 3) := by decide +kernel
theorem dd_X12_glad_119 : decode Y_X12_glad.2.1 119 = .ok (.iinc 4 1, 3) := by decide +kernel
theorem dd_X12_glad_122 : decode Y_X12_glad.2.1 122 = .ok (.goto (-99), 3) := by decide +kernel
theorem dd_X12_glad_125 : decode Y_X12_glad.2.1 125 = .ok (.iload_n 1, 1) := by decide +kernel
theorem dd_X12_glad_126 : decode Y_X12_glad.2.1 126 = .ok (.ifCond .ne 7, 3) := by decide +kernel
theorem dd_X12_glad_129 : decode Y_X12_glad.2.1 129 = .ok (.iload_n 2, 1) := by decide +kernel
theorem dd_X12_glad_130 : decode Y_X12_glad.2.1 130 = .ok (.goto 4, 3) := by decide +kernel
theorem dd_X12_glad_133 : decode Y_X12_glad.2.1 133 = .ok (.iload_n 3, 1) := by decide +kernel
theorem dd_X12_glad_134 : decode Y_X12_glad.2.1 134 = .ok (.ireturn, 1) := by decide +kernel
def F_X12_glad_L38 (x0 : Nat) (x1 : Int32) (x4 : Int32) (K119 : Int32 → Int32 → zM → zO) : Nat → Int32 → Int32 → Int32 → zM → zO
  | 0, _, _, _, _ => none
  | n + 1, x2, x3, x5, M => zit ((M x0 1) ≤ x5) (K119 x2 x3 M) (zck (zin x5 73) (zck (zin x4 73) (zbI (F_X12_likes x0 x4 (M (zgr x0 47) (zix x5)) (M (zgr x0 47) (zix x4)) M) (fun r2 M3 => zjo (fun (w1 : Int32) (w2 : Int32) (M5 : zM) => F_X12_glad_L38 x0 x1 x4 K119 n w1 w2 (x5 + 1) M5) (fun (k1 : Int32 → Int32 → zM → zO) => zit (r2 = 0) (k1 x2 x3 M3) (zck (zin x4 73) (zck (zin x5 73) (zbI (F_X12_likes x0 x5 (M3 (zgr x0 47) (zix x4)) (M3 (zgr x0 47) (zix x5)) M3) (fun r3 M4 => zit (r3 = 0) (k1 x2 x3 M4) (zit (x3 = (-1)) (zlt ((10 * x4) + x5) (fun v2 => k1 (x2 + 1) v2 M4)) (k1 (x2 + 1) x3 M4)))))))))))
def F_X12_glad_L23 (x0 : Nat) (x1 : Int32) (K125 : Int32 → Int32 → zM → zO) : Nat → Int32 → Int32 → Int32 → zM → zO
  | 0, _, _, _, _ => none
  | n + 1, x2, x3, x4, M => zit ((M x0 1) ≤ x4) (K125 x2 x3 M) (zlt (x4 + 1) (fun v1 => F_X12_glad_L38 x0 x1 x4 (fun (y1 : Int32) (y2 : Int32) (M6 : zM) => F_X12_glad_L23 x0 x1 K125 n y1 y2 (x4 + 1) M6) zN x2 x3 v1 M))
def F_X12_glad (t : Nat) (a1 : Int32) (M : zM) : zO := zst (zup M t 0 0) (fun M1 => zbI (F_X12_isWhat t a1 1 M1) (fun r1 M2 => zit (r1 = 0) (zI 0 M2) (F_X12_glad_L23 t a1 (fun (y3 : Int32) (y4 : Int32) (M7 : zM) => zjo (fun (w3 : Int32) (M8 : zM) => zI w3 M8) (fun (k2 : Int32 → zM → zO) => zit (a1 = 0) (k2 y3 M7) (k2 y4 M7))) zN 0 (-1) 0 M2)))
set_option maxHeartbeats 1000000 in
set_option maxRecDepth 20000 in
theorem ct_X12_glad_L38 (l : Launch) (hl : l.stackTraces = false) (G : zG) (x0 : Nat) (hx0 : zsh x0 = 12) (x1 : Int32) (x4 : Int32) (K119 : Int32 → Int32 → zM → zO) (hK119 : ∀ (x2 : Int32) (x3 : Int32) (M : zM), zEv l G Y_X12_glad 3 0 119 [(0, .ref (G.2.1 + x0)), (1, .int x1), (2, .int x2), (3, .int x3), (4, .int x4)] [] M (K119 x2 x3 M)) : ∀ (n : Nat) (x2 : Int32) (x3 : Int32) (x5 : Int32) (M : zM), zEv l G Y_X12_glad 3 0 38 [(0, .ref (G.2.1 + x0)), (1, .int x1), (2, .int x2), (3, .int x3), (4, .int x4), (5, .int x5)] [] M (F_X12_glad_L38 x0 x1 x4 K119 n x2 x3 x5 M) := by
  intro n
  induction n with
  | zero => intro x2 x3 x5 M; exact ev_none
  | succ n ih =>
    intro x2 x3 x5 M
    show zEv l G Y_X12_glad 3 0 38 [(0, .ref (G.2.1 + x0)), (1, .int x1), (2, .int x2), (3, .int x3), (4, .int x4), (5, .int x5)] [] M (zit ((M x0 1) ≤ x5) (K119 x2 x3 M) (zck (zin x5 73) (zck (zin x4 73) (zbI (F_X12_likes x0 x4 (M (zgr x0 47) (zix x5)) (M (zgr x0 47) (zix x4)) M) (fun r2 M3 => zjo (fun (w1 : Int32) (w2 : Int32) (M5 : zM) => F_X12_glad_L38 x0 x1 x4 K119 n w1 w2 (x5 + 1) M5) (fun (k1 : Int32 → Int32 → zM → zO) => zit (r2 = 0) (k1 x2 x3 M3) (zck (zin x4 73) (zck (zin x5 73) (zbI (F_X12_likes x0 x5 (M3 (zgr x0 47) (zix x4)) (M3 (zgr x0 47) (zix x5)) M3) (fun r3 M4 => zit (r3 = 0) (k1 x2 x3 M4) (zit (x3 = (-1)) (zlt ((10 * x4) + x5) (fun v2 => k1 (x2 + 1) v2 M4)) (k1 (x2 + 1) x3 M4))))))))))))
    refine ev_iload dd_X12_glad_38 5 rfl ?_
    refine ev_aload_n dd_X12_glad_40 0 rfl ?_
    refine ev_getI gf_RX12_319 dd_X12_glad_41 hx0 (by decide) ?_
    refine ev_icmp_ge 119 dd_X12_glad_44 (by decide) ?_ ?_
    · refine ev_lv (lv' := [(0, .ref (G.2.1 + x0)), (1, .int x1), (2, .int x2), (3, .int x3), (4, .int x4)]) [0, 1, 2, 3, 4] rfl ?_
      exact hK119 _ _ _
    · refine ev_aload_n dd_X12_glad_47 0 rfl ?_
      refine ev_iload dd_X12_glad_48 4 rfl ?_
      refine ev_aload_n dd_X12_glad_50 0 rfl ?_
      refine ev_getR gf_RX12_87 dd_X12_glad_51 hx0 (by decide) ?_
      refine ev_iload dd_X12_glad_54 5 rfl ?_
      refine ev_iald dd_X12_glad_56 ((zg_12_47 hx0).1) ((zg_12_47 hx0).2) ?_
      refine ev_aload_n dd_X12_glad_57 0 rfl ?_
      refine ev_getR gf_RX12_87 dd_X12_glad_58 hx0 (by decide) ?_
      refine ev_iload dd_X12_glad_61 4 rfl ?_
      refine ev_iald dd_X12_glad_63 ((zg_12_47 hx0).1) ((zg_12_47 hx0).2) ?_
      refine ev_callVI (As := [.int x4, .int (M (zgr x0 47) (zix x5)), .int (M (zgr x0 47) (zix x4))]) cl_RX12_400 (ct_X12_likes l hl G x0 hx0 x4 (M (zgr x0 47) (zix x5)) (M (zgr x0 47) (zix x4)) M) dd_X12_glad_64 hx0 (by decide) (Nat.le_of_ble_eq_true rfl) (Nat.le_of_ble_eq_true rfl) rfl rfl (fun r2 M3 => ?_)
      refine ev_jo (fun (k1 : Int32 → Int32 → zM → zO) => ∀ (w1 : Int32) (w2 : Int32) (M5 : zM), zEv l G Y_X12_glad 3 0 113 [(0, .ref (G.2.1 + x0)), (1, .int x1), (2, .int w1), (3, .int w2), (4, .int x4), (5, .int x5)] [] M5 (k1 w1 w2 M5)) ?_ (fun k1 hk1 => ?_)
      · intro w1 w2 M5
        refine ev_iinc (j := 5) (v := 1) (lv' := [(0, .ref (G.2.1 + x0)), (1, .int x1), (2, .int w1), (3, .int w2), (4, .int x4), (5, .int (x5 + 1))]) [1, 2, 3, 4, 5, 0] dd_X12_glad_113 rfl (by decide) (by decide) rfl ?_
        refine ev_goto 38 dd_X12_glad_116 (by decide) ?_
        exact ih _ _ _ _
      · refine ev_if_eq 113 dd_X12_glad_67 (by decide) ?_ ?_
        · exact hk1 _ _ _
        · refine ev_aload_n dd_X12_glad_70 0 rfl ?_
          refine ev_iload dd_X12_glad_71 5 rfl ?_
          refine ev_aload_n dd_X12_glad_73 0 rfl ?_
          refine ev_getR gf_RX12_87 dd_X12_glad_74 hx0 (by decide) ?_
          refine ev_iload dd_X12_glad_77 4 rfl ?_
          refine ev_iald dd_X12_glad_79 ((zg_12_47 hx0).1) ((zg_12_47 hx0).2) ?_
          refine ev_aload_n dd_X12_glad_80 0 rfl ?_
          refine ev_getR gf_RX12_87 dd_X12_glad_81 hx0 (by decide) ?_
          refine ev_iload dd_X12_glad_84 5 rfl ?_
          refine ev_iald dd_X12_glad_86 ((zg_12_47 hx0).1) ((zg_12_47 hx0).2) ?_
          refine ev_callVI (As := [.int x5, .int (M3 (zgr x0 47) (zix x4)), .int (M3 (zgr x0 47) (zix x5))]) cl_RX12_400 (ct_X12_likes l hl G x0 hx0 x5 (M3 (zgr x0 47) (zix x4)) (M3 (zgr x0 47) (zix x5)) M3) dd_X12_glad_87 hx0 (by decide) (Nat.le_of_ble_eq_true rfl) (Nat.le_of_ble_eq_true rfl) rfl rfl (fun r3 M4 => ?_)
          refine ev_if_ne 96 dd_X12_glad_90 (by decide) ?_ ?_
          · refine ev_iinc (j := 2) (v := 1) (lv' := [(0, .ref (G.2.1 + x0)), (1, .int x1), (2, .int (x2 + 1)), (3, .int x3), (4, .int x4), (5, .int x5)]) [1, 2, 0, 3, 4, 5] dd_X12_glad_96 rfl (by decide) (by decide) rfl ?_
            refine ev_iload_n dd_X12_glad_99 3 rfl ?_
            refine ev_iconst (v := (-1)) dd_X12_glad_100 (by decide) ?_
            refine ev_icmp_ne 113 dd_X12_glad_101 (by decide) ?_ ?_
            · exact hk1 _ _ _
            · refine ev_lv (lv' := [(0, .ref (G.2.1 + x0)), (1, .int x1), (2, .int (x2 + 1)), (4, .int x4), (5, .int x5)]) [0, 1, 2, 4, 5] rfl ?_
              refine ev_bipush (v := 10) dd_X12_glad_104 (by decide) ?_
              refine ev_iload dd_X12_glad_106 3 rfl ?_
              refine ev_imul dd_X12_glad_108 ?_
              refine ev_iload dd_X12_glad_109 4 rfl ?_
              refine ev_iadd dd_X12_glad_111 ?_
              refine ev_topi (fun v2 => ?_)
              refine ev_istore_n (i := 3) (lv' := [(0, .ref (G.2.1 + x0)), (1, .int x1), (2, .int (x2 + 1)), (3, .int v2), (4, .int x4), (5, .int x5)]) [1, 2, 3, 0, 4, 5] dd_X12_glad_112 rfl (by decide) rfl ?_
              exact hk1 _ _ _
          · refine ev_goto 113 dd_X12_glad_93 (by decide) ?_
            exact hk1 _ _ _
set_option maxHeartbeats 1000000 in
set_option maxRecDepth 20000 in
theorem ct_X12_glad_L23 (l : Launch) (hl : l.stackTraces = false) (G : zG) (x0 : Nat) (hx0 : zsh x0 = 12) (x1 : Int32) (K125 : Int32 → Int32 → zM → zO) (hK125 : ∀ (x2 : Int32) (x3 : Int32) (M : zM), zEv l G Y_X12_glad 3 0 125 [(1, .int x1), (2, .int x2), (3, .int x3)] [] M (K125 x2 x3 M)) : ∀ (n : Nat) (x2 : Int32) (x3 : Int32) (x4 : Int32) (M : zM), zEv l G Y_X12_glad 3 0 23 [(0, .ref (G.2.1 + x0)), (1, .int x1), (2, .int x2), (3, .int x3), (4, .int x4)] [] M (F_X12_glad_L23 x0 x1 K125 n x2 x3 x4 M) := by
  intro n
  induction n with
  | zero => intro x2 x3 x4 M; exact ev_none
  | succ n ih =>
    intro x2 x3 x4 M
    show zEv l G Y_X12_glad 3 0 23 [(0, .ref (G.2.1 + x0)), (1, .int x1), (2, .int x2), (3, .int x3), (4, .int x4)] [] M (zit ((M x0 1) ≤ x4) (K125 x2 x3 M) (zlt (x4 + 1) (fun v1 => F_X12_glad_L38 x0 x1 x4 (fun (y1 : Int32) (y2 : Int32) (M6 : zM) => F_X12_glad_L23 x0 x1 K125 n y1 y2 (x4 + 1) M6) zN x2 x3 v1 M)))
    refine ev_iload dd_X12_glad_23 4 rfl ?_
    refine ev_aload_n dd_X12_glad_25 0 rfl ?_
    refine ev_getI gf_RX12_319 dd_X12_glad_26 hx0 (by decide) ?_
    refine ev_icmp_ge 125 dd_X12_glad_29 (by decide) ?_ ?_
    · refine ev_lv (lv' := [(1, .int x1), (2, .int x2), (3, .int x3)]) [1, 2, 3] rfl ?_
      exact hK125 _ _ _
    · refine ev_iload dd_X12_glad_32 4 rfl ?_
      refine ev_iconst (v := 1) dd_X12_glad_34 (by decide) ?_
      refine ev_iadd dd_X12_glad_35 ?_
      refine ev_topi (fun v1 => ?_)
      refine ev_istore (i := 5) (lv' := [(0, .ref (G.2.1 + x0)), (1, .int x1), (2, .int x2), (3, .int x3), (4, .int x4), (5, .int v1)]) [1, 2, 3, 4, 5, 0] dd_X12_glad_36 (by decide) rfl ?_
      refine ct_X12_glad_L38 l hl G x0 hx0 x1 x4 _ (fun y1 y2 M6 => ?_) zN _ _ _ _
      refine ev_iinc (j := 4) (v := 1) (lv' := [(0, .ref (G.2.1 + x0)), (1, .int x1), (2, .int y1), (3, .int y2), (4, .int (x4 + 1))]) [1, 2, 3, 4, 0] dd_X12_glad_119 rfl (by decide) (by decide) rfl ?_
      refine ev_goto 23 dd_X12_glad_122 (by decide) ?_
      exact ih _ _ _ _
set_option maxHeartbeats 1000000 in
set_option maxRecDepth 20000 in
theorem ct_X12_glad (l : Launch) (hl : l.stackTraces = false) (G : zG) (t : Nat) (ht : zsh t = 12) (a1 : Int32) (M : zM) : zMt l G Y_X12_glad 3 [.ref (G.2.1 + t), .int a1] M (F_X12_glad t a1 M) := by
  refine zMt_of (by decide +kernel) (Nat.le_of_ble_eq_true rfl) ?_
  show zEv l G Y_X12_glad 3 0 0 [(0, .ref (G.2.1 + t)), (1, .int a1)] [] M (zst (zup M t 0 0) (fun M1 => zbI (F_X12_isWhat t a1 1 M1) (fun r1 M2 => zit (r1 = 0) (zI 0 M2) (F_X12_glad_L23 t a1 (fun (y3 : Int32) (y4 : Int32) (M7 : zM) => zjo (fun (w3 : Int32) (M8 : zM) => zI w3 M8) (fun (k2 : Int32 → zM → zO) => zit (a1 = 0) (k2 y3 M7) (k2 y4 M7))) zN 0 (-1) 0 M2))))
  refine ev_aload_n dd_X12_glad_0 0 rfl ?_
  refine ev_iconst (v := 0) dd_X12_glad_1 (by decide) ?_
  refine ev_putI gw_RX12_153 dd_X12_glad_2 ht (by decide) ?_
  refine ev_st (fun M1 => ?_)
  refine ev_aload_n dd_X12_glad_5 0 rfl ?_
  refine ev_iload_n dd_X12_glad_6 1 rfl ?_
  refine ev_iconst (v := 1) dd_X12_glad_7 (by decide) ?_
  refine ev_callVI (As := [.int a1, .int 1]) cl_RX12_349 (ct_X12_isWhat l hl G t ht a1 1 M1) dd_X12_glad_8 ht (by decide) (Nat.le_of_ble_eq_true rfl) (Nat.le_of_ble_eq_true rfl) rfl rfl (fun r1 M2 => ?_)
  refine ev_if_ne 16 dd_X12_glad_11 (by decide) ?_ ?_
  · refine ev_iconst (v := 0) dd_X12_glad_16 (by decide) ?_
    refine ev_istore_n (i := 2) (lv' := [(0, .ref (G.2.1 + t)), (1, .int a1), (2, .int 0)]) [1, 2, 0] dd_X12_glad_17 rfl (by decide) rfl ?_
    refine ev_iconst (v := (-1)) dd_X12_glad_18 (by decide) ?_
    refine ev_istore_n (i := 3) (lv' := [(0, .ref (G.2.1 + t)), (1, .int a1), (2, .int 0), (3, .int (-1))]) [1, 2, 3, 0] dd_X12_glad_19 rfl (by decide) rfl ?_
    refine ev_iconst (v := 0) dd_X12_glad_20 (by decide) ?_
    refine ev_istore (i := 4) (lv' := [(0, .ref (G.2.1 + t)), (1, .int a1), (2, .int 0), (3, .int (-1)), (4, .int 0)]) [1, 2, 3, 4, 0] dd_X12_glad_21 (by decide) rfl ?_
    refine ct_X12_glad_L23 l hl G t ht a1 _ (fun y3 y4 M7 => ?_) zN _ _ _ _
    refine ev_iload_n dd_X12_glad_125 0 rfl ?_
    refine ev_lv (lv' := [(2, .int y3), (3, .int y4)]) [1, 2] rfl ?_
    refine ev_jo (fun (k2 : Int32 → zM → zO) => ∀ (w3 : Int32) (M8 : zM), zEv l G Y_X12_glad 3 0 134 [] [.int w3] M8 (k2 w3 M8)) ?_ (fun k2 hk2 => ?_)
    · intro w3 M8
      exact ev_iret dd_X12_glad_134 rfl (Nat.le_of_ble_eq_true rfl) rfl
    · refine ev_if_ne 133 dd_X12_glad_126 (by decide) ?_ ?_
      · refine ev_lv (lv' := [(3, .int y4)]) [1] rfl ?_
        refine ev_iload_n dd_X12_glad_133 0 rfl ?_
        refine ev_lv (lv' := []) [] rfl ?_
        exact hk2 _ _
      · refine ev_lv (lv' := [(2, .int y3)]) [0] rfl ?_
        refine ev_iload_n dd_X12_glad_129 0 rfl ?_
        refine ev_lv (lv' := []) [] rfl ?_
        refine ev_goto 134 dd_X12_glad_130 (by decide) ?_
        exact hk2 _ _
  · refine ev_lv (lv' := []) [] rfl ?_
    refine ev_iconst (v := 0) dd_X12_glad_14 (by decide) ?_
    exact ev_iret dd_X12_glad_15 rfl (Nat.le_of_ble_eq_true rfl) rfl
/-! X12_has -/
theorem dd_X12_has_0 : decode Y_X12_has.2.1 0 = .ok (.aload_n 0, 1) := by decide +kernel
theorem dd_X12_has_1 : decode Y_X12_has.2.1 1 = .ok (.iconst 0, 1) := by decide +kernel
theorem dd_X12_has_2 : decode Y_X12_has.2.1 2 = .ok (.putfield 153, 3) := by decide +kernel
theorem dd_X12_has_5 : decode Y_X12_has.2.1 5 = .ok (.aload_n 0, 1) := by decide +kernel
theorem dd_X12_has_6 : decode Y_X12_has.2.1 6 = .ok (.iload_n 1, 1) := by decide +kernel
theorem dd_X12_has_7 : decode Y_X12_has.2.1 7 = .ok (.invokevirtual 346, 3) := by decide +kernel
theorem dd_X12_has_10 : decode Y_X12_has.2.1 10 = .ok (.ifCond .eq 12, 3) := by decide +kernel
theorem dd_X12_has_13 : decode Y_X12_has.2.1 13 = .ok (.aload_n 0, 1) := by decide +kernel
theorem dd_X12_has_14 : decode Y_X12_has.2.1 14 = .ok (.getfield 87, 3) := by decide +kernel
theorem dd_X12_has_17 : decode Y_X12_has.2.1 17 = .ok (.iload_n 1, 1) := by decide +kernel
theorem dd_X12_has_18 : decode Y_X12_has.2.1 18 = .ok (.iaload, 1) := by decide +kernel
theorem dd_X12_has_19 : decode Y_X12_has.2.1 19 = .ok (.goto 4, 3) := by decide +kernel
theorem dd_X12_has_22 : decode Y_X12_has.2.1 22 = .ok (.iconst 0, 1) := by decide +kernel
theorem dd_X12_has_23 : decode Y_X12_has.2.1 23 = .ok (.ireturn, 1) := by decide +kernel
def F_X12_has (t : Nat) (a1 : Int32) (M : zM) : zO := zst (zup M t 0 0) (fun M1 => zbI (F_X12_isOne t a1 M1) (fun r1 M2 => zjo (fun (w1 : Int32) (M3 : zM) => zI w1 M3) (fun (k1 : Int32 → zM → zO) => zit (r1 = 0) (k1 0 M2) (zck (zin a1 73) (k1 (M2 (zgr t 47) (zix a1)) M2)))))
set_option maxHeartbeats 1000000 in
set_option maxRecDepth 20000 in
theorem ct_X12_has (l : Launch) (hl : l.stackTraces = false) (G : zG) (t : Nat) (ht : zsh t = 12) (a1 : Int32) (M : zM) : zMt l G Y_X12_has 3 [.ref (G.2.1 + t), .int a1] M (F_X12_has t a1 M) := by
  refine zMt_of (by decide +kernel) (Nat.le_of_ble_eq_true rfl) ?_
  show zEv l G Y_X12_has 3 0 0 [(0, .ref (G.2.1 + t)), (1, .int a1)] [] M (zst (zup M t 0 0) (fun M1 => zbI (F_X12_isOne t a1 M1) (fun r1 M2 => zjo (fun (w1 : Int32) (M3 : zM) => zI w1 M3) (fun (k1 : Int32 → zM → zO) => zit (r1 = 0) (k1 0 M2) (zck (zin a1 73) (k1 (M2 (zgr t 47) (zix a1)) M2))))))
  refine ev_aload_n dd_X12_has_0 0 rfl ?_
  refine ev_iconst (v := 0) dd_X12_has_1 (by decide) ?_
  refine ev_putI gw_RX12_153 dd_X12_has_2 ht (by decide) ?_
  refine ev_st (fun M1 => ?_)
  refine ev_aload_n dd_X12_has_5 0 rfl ?_
  refine ev_iload_n dd_X12_has_6 1 rfl ?_
  refine ev_callVI (As := [.int a1]) cl_RX12_346 (ct_X12_isOne l hl G t ht a1 M1) dd_X12_has_7 ht (by decide) (Nat.le_of_ble_eq_true rfl) (Nat.le_of_ble_eq_true rfl) rfl rfl (fun r1 M2 => ?_)
  refine ev_jo (fun (k1 : Int32 → zM → zO) => ∀ (w1 : Int32) (M3 : zM), zEv l G Y_X12_has 3 0 23 [] [.int w1] M3 (k1 w1 M3)) ?_ (fun k1 hk1 => ?_)
  · intro w1 M3
    exact ev_iret dd_X12_has_23 rfl (Nat.le_of_ble_eq_true rfl) rfl
  · refine ev_if_eq 22 dd_X12_has_10 (by decide) ?_ ?_
    · refine ev_lv (lv' := []) [] rfl ?_
      refine ev_iconst (v := 0) dd_X12_has_22 (by decide) ?_
      exact hk1 _ _
    · refine ev_aload_n dd_X12_has_13 0 rfl ?_
      refine ev_lv (lv' := [(1, .int a1)]) [1] rfl ?_
      refine ev_getR gf_RX12_87 dd_X12_has_14 ht (by decide) ?_
      refine ev_iload_n dd_X12_has_17 0 rfl ?_
      refine ev_lv (lv' := []) [] rfl ?_
      refine ev_iald dd_X12_has_18 ((zg_12_47 ht).1) ((zg_12_47 ht).2) ?_
      refine ev_goto 23 dd_X12_has_19 (by decide) ?_
      exact hk1 _ _
/-! X12_holder -/
theorem dd_X12_holder_0 : decode Y_X12_holder.2.1 0 = .ok (.iconst 0, 1) := by decide +kernel
theorem dd_X12_holder_1 : decode Y_X12_holder.2.1 1 = .ok (.istore_n 3, 1) := by decide +kernel
theorem dd_X12_holder_2 : decode Y_X12_holder.2.1 2 = .ok (.iload_n 3, 1) := by decide +kernel
theorem dd_X12_holder_3 : decode Y_X12_holder.2.1 3 = .ok (.aload_n 0, 1) := by decide +kernel
theorem dd_X12_holder_4 : decode Y_X12_holder.2.1 4 = .ok (.getfield 319, 3) := by decide +kernel
theorem dd_X12_holder_7 : decode Y_X12_holder.2.1 7 = .ok (.if_icmp .ge 18, 3) := by decide +kernel
theorem dd_X12_holder_10 : decode Y_X12_holder.2.1 10 = .ok (.aload_n 1, 1) := by decide +kernel
theorem dd_X12_holder_11 : decode Y_X12_holder.2.1 11 = .ok (.iload_n 3, 1) := by decide +kernel
theorem dd_X12_holder_12 : decode Y_X12_holder.2.1 12 = .ok (.iaload, 1) := by decide +kernel
theorem dd_X12_holder_13 : decode Y_X12_holder.2.1 13 = .ok (.iload_n 2, 1) := by decide +kernel
theorem dd_X12_holder_14 : decode Y_X12_holder.2.1 14 = .ok (.if_icmp .ne 5, 3) := by decide +kernel
theorem dd_X12_holder_17 : decode Y_X12_holder.2.1 17 = .ok (.iload_n 3, 1) := by decide +kernel
theorem dd_X12_holder_18 : decode Y_X12_holder.2.1 18 = .ok (.ireturn, 1) := by decide +kernel
theorem dd_X12_holder_19 : decode Y_X12_holder.2.1 19 = .ok (.iinc 3 1, 3) := by decide +kernel
theorem dd_X12_holder_22 : decode Y_X12_holder.2.1 22 = .ok (.goto (-20), 3) := by decide +kernel
theorem dd_X12_holder_25 : decode Y_X12_holder.2.1 25 = .ok (.iconst (-1), 1) := by decide +kernel
theorem dd_X12_holder_26 : decode Y_X12_holder.2.1 26 = .ok (.ireturn, 1) := by decide +kernel
def F_X12_holder_L2 (x0 : Nat) (x1 : Nat) (x2 : Int32) (K25 : zM → zO) : Nat → Int32 → zM → zO
  | 0, _, _ => none
  | n + 1, x3, M => zit ((M x0 1) ≤ x3) (K25 M) (zck (zin x3 (zal x1)) (zit ((M x1 (zix x3)) = x2) (zI x3 M) (F_X12_holder_L2 x0 x1 x2 K25 n (x3 + 1) M)))
def F_X12_holder (t : Nat) (a1 : Nat) (a2 : Int32) (M : zM) : zO := F_X12_holder_L2 t a1 a2 (fun  (M1 : zM) => zI (-1) M1) zN 0 M
set_option maxHeartbeats 1000000 in
set_option maxRecDepth 20000 in
theorem ct_X12_holder_L2 (l : Launch) (hl : l.stackTraces = false) (G : zG) (x0 : Nat) (hx0 : zsh x0 = 12) (x1 : Nat) (hx1 : zsh x1 = 20) (x2 : Int32) (K25 : zM → zO) (hK25 : ∀  (M : zM), zEv l G Y_X12_holder 1 0 25 [] [] M (K25 M)) : ∀ (n : Nat) (x3 : Int32) (M : zM), zEv l G Y_X12_holder 1 0 2 [(0, .ref (G.2.1 + x0)), (1, .ref (G.2.1 + x1)), (2, .int x2), (3, .int x3)] [] M (F_X12_holder_L2 x0 x1 x2 K25 n x3 M) := by
  intro n
  induction n with
  | zero => intro x3 M; exact ev_none
  | succ n ih =>
    intro x3 M
    show zEv l G Y_X12_holder 1 0 2 [(0, .ref (G.2.1 + x0)), (1, .ref (G.2.1 + x1)), (2, .int x2), (3, .int x3)] [] M (zit ((M x0 1) ≤ x3) (K25 M) (zck (zin x3 (zal x1)) (zit ((M x1 (zix x3)) = x2) (zI x3 M) (F_X12_holder_L2 x0 x1 x2 K25 n (x3 + 1) M))))
    refine ev_iload_n dd_X12_holder_2 3 rfl ?_
    refine ev_aload_n dd_X12_holder_3 0 rfl ?_
    refine ev_getI gf_RX12_319 dd_X12_holder_4 hx0 (by decide) ?_
    refine ev_icmp_ge 25 dd_X12_holder_7 (by decide) ?_ ?_
    · refine ev_lv (lv' := []) [] rfl ?_
      exact hK25 _
    · refine ev_aload_n dd_X12_holder_10 1 rfl ?_
      refine ev_iload_n dd_X12_holder_11 3 rfl ?_
      refine ev_iald dd_X12_holder_12 hx1 rfl ?_
      refine ev_iload_n dd_X12_holder_13 2 rfl ?_
      refine ev_icmp_ne 19 dd_X12_holder_14 (by decide) ?_ ?_
      · refine ev_iinc (j := 3) (v := 1) (lv' := [(0, .ref (G.2.1 + x0)), (1, .ref (G.2.1 + x1)), (2, .int x2), (3, .int (x3 + 1))]) [1, 2, 3, 0] dd_X12_holder_19 rfl (by decide) (by decide) rfl ?_
        refine ev_goto 2 dd_X12_holder_22 (by decide) ?_
        exact ih _ _
      · refine ev_lv (lv' := [(3, .int x3)]) [3] rfl ?_
        refine ev_iload_n dd_X12_holder_17 0 rfl ?_
        refine ev_lv (lv' := []) [] rfl ?_
        exact ev_iret dd_X12_holder_18 rfl (Nat.le_of_ble_eq_true rfl) rfl
set_option maxHeartbeats 1000000 in
set_option maxRecDepth 20000 in
theorem ct_X12_holder (l : Launch) (hl : l.stackTraces = false) (G : zG) (t : Nat) (ht : zsh t = 12) (a1 : Nat) (ha1 : zsh a1 = 20) (a2 : Int32) (M : zM) : zMt l G Y_X12_holder 1 [.ref (G.2.1 + t), .ref (G.2.1 + a1), .int a2] M (F_X12_holder t a1 a2 M) := by
  refine zMt_of (by decide +kernel) (Nat.le_of_ble_eq_true rfl) ?_
  show zEv l G Y_X12_holder 1 0 0 [(0, .ref (G.2.1 + t)), (1, .ref (G.2.1 + a1)), (2, .int a2)] [] M (F_X12_holder_L2 t a1 a2 (fun  (M1 : zM) => zI (-1) M1) zN 0 M)
  refine ev_iconst (v := 0) dd_X12_holder_0 (by decide) ?_
  refine ev_istore_n (i := 3) (lv' := [(0, .ref (G.2.1 + t)), (1, .ref (G.2.1 + a1)), (2, .int a2), (3, .int 0)]) [1, 2, 3, 0] dd_X12_holder_1 rfl (by decide) rfl ?_
  refine ct_X12_holder_L2 l hl G t ht a1 ha1 a2 _ (fun M1 => ?_) zN _ _
  refine ev_iconst (v := (-1)) dd_X12_holder_25 (by decide) ?_
  exact ev_iret dd_X12_holder_26 rfl (Nat.le_of_ble_eq_true rfl) rfl
/-! X12_image -/
theorem dd_X12_image_0 : decode Y_X12_image.2.1 0 = .ok (.aload_n 0, 1) := by decide +kernel
theorem dd_X12_image_1 : decode Y_X12_image.2.1 1 = .ok (.iconst 0, 1) := by decide +kernel
theorem dd_X12_image_2 : decode Y_X12_image.2.1 2 = .ok (.putfield 153, 3) := by decide +kernel
theorem dd_X12_image_5 : decode Y_X12_image.2.1 5 = .ok (.aload_n 0, 1) := by decide +kernel
theorem dd_X12_image_6 : decode Y_X12_image.2.1 6 = .ok (.iconst 1, 1) := by decide +kernel
theorem dd_X12_image_7 : decode Y_X12_image.2.1 7 = .ok (.putfield 335, 3) := by decide +kernel
theorem dd_X12_image_10 : decode Y_X12_image.2.1 10 = .ok (.aload_n 0, 1) := by decide +kernel
theorem dd_X12_image_11 : decode Y_X12_image.2.1 11 = .ok (.aload_n 0, 1) := by decide +kernel
theorem dd_X12_image_12 : decode Y_X12_image.2.1 12 = .ok (.getfield 329, 3) := by decide +kernel
theorem dd_X12_image_15 : decode Y_X12_image.2.1 15 = .ok (.putfield 472, 3) := by decide +kernel
theorem dd_X12_image_18 : decode Y_X12_image.2.1 18 = .ok (.aload_n 0, 1) := by decide +kernel
theorem dd_X12_image_19 : decode Y_X12_image.2.1 19 = .ok (.aload_n 0, 1) := by decide +kernel
theorem dd_X12_image_20 : decode Y_X12_image.2.1 20 = .ok (.getfield 332, 3) := by decide +kernel
theorem dd_X12_image_23 : decode Y_X12_image.2.1 23 = .ok (.putfield 475, 3) := by decide +kernel
theorem dd_X12_image_26 : decode Y_X12_image.2.1 26 = .ok (.aload_n 0, 1) := by decide +kernel
theorem dd_X12_image_27 : decode Y_X12_image.2.1 27 = .ok (.aload_n 0, 1) := by decide +kernel
theorem dd_X12_image_28 : decode Y_X12_image.2.1 28 = .ok (.getfield 87, 3) := by decide +kernel
theorem dd_X12_image_31 : decode Y_X12_image.2.1 31 = .ok (.aload_n 0, 1) := by decide +kernel
theorem dd_X12_image_32 : decode Y_X12_image.2.1 32 = .ok (.getfield 144, 3) := by decide +kernel
theorem dd_X12_image_35 : decode Y_X12_image.2.1 35 = .ok (.invokevirtual 325, 3) := by decide +kernel
theorem dd_X12_image_38 : decode Y_X12_image.2.1 38 = .ok (.aload_n 0, 1) := by decide +kernel
theorem dd_X12_image_39 : decode Y_X12_image.2.1 39 = .ok (.aload_n 0, 1) := by decide +kernel
theorem dd_X12_image_40 : decode Y_X12_image.2.1 40 = .ok (.getfield 93, 3) := by decide +kernel
theorem dd_X12_image_43 : decode Y_X12_image.2.1 43 = .ok (.aload_n 0, 1) := by decide +kernel
theorem dd_X12_image_44 : decode Y_X12_image.2.1 44 = .ok (.getfield 147, 3) := by decide +kernel
theorem dd_X12_image_47 : decode Y_X12_image.2.1 47 = .ok (.invokevirtual 325, 3) := by decide +kernel
theorem dd_X12_image_50 : decode Y_X12_image.2.1 50 = .ok (.aload_n 0, 1) := by decide +kernel
theorem dd_X12_image_51 : decode Y_X12_image.2.1 51 = .ok (.aload_n 0, 1) := by decide +kernel
theorem dd_X12_image_52 : decode Y_X12_image.2.1 52 = .ok (.getfield 129, 3) := by decide +kernel
theorem dd_X12_image_55 : decode Y_X12_image.2.1 55 = .ok (.aload_n 0, 1) := by decide +kernel
theorem dd_X12_image_56 : decode Y_X12_image.2.1 56 = .ok (.getfield 150, 3) := by decide +kernel
theorem dd_X12_image_59 : decode Y_X12_image.2.1 59 = .ok (.invokevirtual 325, 3) := by decide +kernel
theorem dd_X12_image_62 : decode Y_X12_image.2.1 62 = .ok (.return_, 1) := by decide +kernel
def F_X12_image (t : Nat) (M : zM) : zO := zst (zup M t 0 0) (fun M1 => zck (zbo 1) (zst (zup M1 t 73 1) (fun M2 => zst (zup M2 t 74 (M2 t 50)) (fun M3 => zst (zup M3 t 75 (M3 t 64)) (fun M4 => zbV (F_X12_copies t (zgr t 47) (zgr t 76) M4) (fun M5 => zbV (F_X12_copies t (zgr t 49) (zgr t 77) M5) (fun M6 => zbV (F_X12_copies t (zgr t 65) (zgr t 78) M6) (fun M7 => zV M7))))))))
set_option maxHeartbeats 1000000 in
set_option maxRecDepth 20000 in
theorem ct_X12_image (l : Launch) (hl : l.stackTraces = false) (G : zG) (t : Nat) (ht : zsh t = 12) (M : zM) : zMt l G Y_X12_image 2 [.ref (G.2.1 + t)] M (F_X12_image t M) := by
  refine zMt_of (by decide +kernel) (Nat.le_of_ble_eq_true rfl) ?_
  show zEv l G Y_X12_image 2 0 0 [(0, .ref (G.2.1 + t))] [] M (zst (zup M t 0 0) (fun M1 => zck (zbo 1) (zst (zup M1 t 73 1) (fun M2 => zst (zup M2 t 74 (M2 t 50)) (fun M3 => zst (zup M3 t 75 (M3 t 64)) (fun M4 => zbV (F_X12_copies t (zgr t 47) (zgr t 76) M4) (fun M5 => zbV (F_X12_copies t (zgr t 49) (zgr t 77) M5) (fun M6 => zbV (F_X12_copies t (zgr t 65) (zgr t 78) M6) (fun M7 => zV M7)))))))))
  refine ev_aload_n dd_X12_image_0 0 rfl ?_
  refine ev_iconst (v := 0) dd_X12_image_1 (by decide) ?_
  refine ev_putI gw_RX12_153 dd_X12_image_2 ht (by decide) ?_
  refine ev_st (fun M1 => ?_)
  refine ev_aload_n dd_X12_image_5 0 rfl ?_
  refine ev_iconst (v := 1) dd_X12_image_6 (by decide) ?_
  refine ev_putZ gw_RX12_335 dd_X12_image_7 ht (by decide) ?_
  refine ev_st (fun M2 => ?_)
  refine ev_aload_n dd_X12_image_10 0 rfl ?_
  refine ev_aload_n dd_X12_image_11 0 rfl ?_
  refine ev_getI gf_RX12_329 dd_X12_image_12 ht (by decide) ?_
  refine ev_putI gw_RX12_472 dd_X12_image_15 ht (by decide) ?_
  refine ev_st (fun M3 => ?_)
  refine ev_aload_n dd_X12_image_18 0 rfl ?_
  refine ev_aload_n dd_X12_image_19 0 rfl ?_
  refine ev_getI gf_RX12_332 dd_X12_image_20 ht (by decide) ?_
  refine ev_putI gw_RX12_475 dd_X12_image_23 ht (by decide) ?_
  refine ev_st (fun M4 => ?_)
  refine ev_aload_n dd_X12_image_26 0 rfl ?_
  refine ev_aload_n dd_X12_image_27 0 rfl ?_
  refine ev_getR gf_RX12_87 dd_X12_image_28 ht (by decide) ?_
  refine ev_aload_n dd_X12_image_31 0 rfl ?_
  refine ev_getR gf_RX12_144 dd_X12_image_32 ht (by decide) ?_
  refine ev_callVV (As := [.ref (G.2.1 + (zgr t 47)), .ref (G.2.1 + (zgr t 76))]) cl_RX12_325 (ct_X12_copies l hl G t ht (zgr t 47) ((zg_12_47 ht).1) (zgr t 76) ((zg_12_76 ht).1) M4) dd_X12_image_35 ht (by decide) (Nat.le_of_ble_eq_true rfl) (Nat.le_of_ble_eq_true rfl) rfl rfl (fun M5 => ?_)
  refine ev_aload_n dd_X12_image_38 0 rfl ?_
  refine ev_aload_n dd_X12_image_39 0 rfl ?_
  refine ev_getR gf_RX12_93 dd_X12_image_40 ht (by decide) ?_
  refine ev_aload_n dd_X12_image_43 0 rfl ?_
  refine ev_getR gf_RX12_147 dd_X12_image_44 ht (by decide) ?_
  refine ev_callVV (As := [.ref (G.2.1 + (zgr t 49)), .ref (G.2.1 + (zgr t 77))]) cl_RX12_325 (ct_X12_copies l hl G t ht (zgr t 49) ((zg_12_49 ht).1) (zgr t 77) ((zg_12_77 ht).1) M5) dd_X12_image_47 ht (by decide) (Nat.le_of_ble_eq_true rfl) (Nat.le_of_ble_eq_true rfl) rfl rfl (fun M6 => ?_)
  refine ev_aload_n dd_X12_image_50 0 rfl ?_
  refine ev_aload_n dd_X12_image_51 0 rfl ?_
  refine ev_getR gf_RX12_129 dd_X12_image_52 ht (by decide) ?_
  refine ev_aload_n dd_X12_image_55 0 rfl ?_
  refine ev_lv (lv' := []) [] rfl ?_
  refine ev_getR gf_RX12_150 dd_X12_image_56 ht (by decide) ?_
  refine ev_callVV (As := [.ref (G.2.1 + (zgr t 65)), .ref (G.2.1 + (zgr t 78))]) cl_RX12_325 (ct_X12_copies l hl G t ht (zgr t 65) ((zg_12_65 ht).1) (zgr t 78) ((zg_12_78 ht).1) M6) dd_X12_image_59 ht (by decide) (Nat.le_of_ble_eq_true rfl) (Nat.le_of_ble_eq_true rfl) rfl rfl (fun M7 => ?_)
  exact ev_vret dd_X12_image_62 rfl (Nat.le_of_ble_eq_true rfl) rfl
/-! X12_isIn -/
theorem dd_X12_isIn_0 : decode Y_X12_isIn.2.1 0 = .ok (.iconst 0, 1) := by decide +kernel
theorem dd_X12_isIn_1 : decode Y_X12_isIn.2.1 1 = .ok (.istore_n 3, 1) := by decide +kernel
theorem dd_X12_isIn_2 : decode Y_X12_isIn.2.1 2 = .ok (.iload_n 3, 1) := by decide +kernel
theorem dd_X12_isIn_3 : decode Y_X12_isIn.2.1 3 = .ok (.aload_n 0, 1) := by decide +kernel
theorem dd_X12_isIn_4 : decode Y_X12_isIn.2.1 4 = .ok (.getfield 20, 3) := by decide +kernel
theorem dd_X12_isIn_7 : decode Y_X12_isIn.2.1 7 = .ok (.iload_n 1, 1) := by decide +kernel
theorem dd_X12_isIn_8 : decode Y_X12_isIn.2.1 8 = .ok (.iaload, 1) := by decide +kernel
theorem dd_X12_isIn_9 : decode Y_X12_isIn.2.1 9 = .ok (.iadd, 1) := by decide +kernel
theorem dd_X12_isIn_10 : decode Y_X12_isIn.2.1 10 = .ok (.aload_n 0, 1) := by decide +kernel
theorem dd_X12_isIn_11 : decode Y_X12_isIn.2.1 11 = .ok (.getfield 20, 3) := by decide +kernel
theorem dd_X12_isIn_14 : decode Y_X12_isIn.2.1 14 = .ok (.iload_n 2, 1) := by decide +kernel
theorem dd_X12_isIn_15 : decode Y_X12_isIn.2.1 15 = .ok (.iaload, 1) := by decide +kernel
theorem dd_X12_isIn_16 : decode Y_X12_isIn.2.1 16 = .ok (.if_icmp .gt 80, 3) := by decide +kernel
theorem dd_X12_isIn_19 : decode Y_X12_isIn.2.1 19 = .ok (.iconst 1, 1) := by decide +kernel
theorem dd_X12_isIn_20 : decode Y_X12_isIn.2.1 20 = .ok (.istore 4, 2) := by decide +kernel
theorem dd_X12_isIn_22 : decode Y_X12_isIn.2.1 22 = .ok (.iconst 0, 1) := by decide +kernel
theorem dd_X12_isIn_23 : decode Y_X12_isIn.2.1 23 = .ok (.istore 5, 2) := by decide +kernel
theorem dd_X12_isIn_25 : decode Y_X12_isIn.2.1 25 = .ok (.iload 5, 2) := by decide +kernel
theorem dd_X12_isIn_27 : decode Y_X12_isIn.2.1 27 = .ok (.aload_n 0, 1) := by decide +kernel
theorem dd_X12_isIn_28 : decode Y_X12_isIn.2.1 28 = .ok (.getfield 20, 3) := by decide +kernel
theorem dd_X12_isIn_31 : decode Y_X12_isIn.2.1 31 = .ok (.iload_n 1, 1) := by decide +kernel
theorem dd_X12_isIn_32 : decode Y_X12_isIn.2.1 32 = .ok (.iaload, 1) := by decide +kernel
theorem dd_X12_isIn_33 : decode Y_X12_isIn.2.1 33 = .ok (.if_icmp .ge 50, 3) := by decide +kernel
theorem dd_X12_isIn_36 : decode Y_X12_isIn.2.1 36 = .ok (.iload 4, 2) := by decide +kernel
theorem dd_X12_isIn_38 : decode Y_X12_isIn.2.1 38 = .ok (.ifCond .eq 45, 3) := by decide +kernel
theorem dd_X12_isIn_41 : decode Y_X12_isIn.2.1 41 = .ok (.aload_n 0, 1) := by decide +kernel
theorem dd_X12_isIn_42 : decode Y_X12_isIn.2.1 42 = .ok (.getfield 16, 3) := by decide +kernel
theorem dd_X12_isIn_45 : decode Y_X12_isIn.2.1 45 = .ok (.bipush 9, 2) := by decide +kernel
theorem dd_X12_isIn_47 : decode Y_X12_isIn.2.1 47 = .ok (.iload_n 1, 1) := by decide +kernel
theorem dd_X12_isIn_48 : decode Y_X12_isIn.2.1 48 = .ok (.imul, 1) := by decide +kernel
theorem dd_X12_isIn_49 : decode Y_X12_isIn.2.1 49 = .ok (.iload 5, 2) := by decide +kernel
theorem dd_X12_isIn_51 : decode Y_X12_isIn.2.1 51 = .ok (.iadd, 1) := by decide +kernel
theorem dd_X12_isIn_52 : decode Y_X12_isIn.2.1 52 = .ok (.iaload, 1) := by decide +kernel
theorem dd_X12_isIn_53 : decode Y_X12_isIn.2.1 53 = .ok (.aload_n 0, 1) := by decide +kernel
theorem dd_X12_isIn_54 : decode Y_X12_isIn.2.1 54 = .ok (.getfield 16, 3) := by decide +kernel
theorem dd_X12_isIn_57 : decode Y_X12_isIn.2.1 57 = .ok (.bipush 9, 2) := by decide +kernel
theorem dd_X12_isIn_59 : decode Y_X12_isIn.2.1 59 = .ok (.iload_n 2, 1) := by decide +kernel
theorem dd_X12_isIn_60 : decode Y_X12_isIn.2.1 60 = .ok (.imul, 1) := by decide +kernel
theorem dd_X12_isIn_61 : decode Y_X12_isIn.2.1 61 = .ok (.iload_n 3, 1) := by decide +kernel
theorem dd_X12_isIn_62 : decode Y_X12_isIn.2.1 62 = .ok (.iadd, 1) := by decide +kernel
theorem dd_X12_isIn_63 : decode Y_X12_isIn.2.1 63 = .ok (.iload 5, 2) := by decide +kernel
theorem dd_X12_isIn_65 : decode Y_X12_isIn.2.1 65 = .ok (.iadd, 1) := by decide +kernel
theorem dd_X12_isIn_66 : decode Y_X12_isIn.2.1 66 = .ok (.iaload, 1) := by decide +kernel
theorem dd_X12_isIn_67 : decode Y_X12_isIn.2.1 67 = .ok (.if_icmp .ne 7, 3) := by decide +kernel
theorem dd_X12_isIn_70 : decode Y_X12_isIn.2.1 70 = .ok (.iconst 1, 1) := by decide +kernel
theorem dd_X12_isIn_71 : decode Y_X12_isIn.2.1 71 = .ok (.goto 4, 3) := by decide +kernel
theorem dd_X12_isIn_74 : decode Y_X12_isIn.2.1 74 = .ok (.iconst 0, 1) := by decide +kernel
theorem dd_X12_isIn_75 : decode Y_X12_isIn.2.1 75 = .ok (.istore 4, 2) := by decide +kernel
theorem dd_X12_isIn_77 : decode Y_X12_isIn.2.1 77 = .ok (.iinc 5 1, 3) := by decide +kernel
theorem dd_X12_isIn_80 : decode Y_X12_isIn.2.1 80 = .ok (.goto (-55), 3) := by decide +kernel
theorem dd_X12_isIn_83 : decode Y_X12_isIn.2.1 83 = .ok (.iload 4, 2) := by decide +kernel
theorem dd_X12_isIn_85 : decode Y_X12_isIn.2.1 85 = .ok (.ifCond .eq 5, 3) := by decide +kernel
theorem dd_X12_isIn_88 : decode Y_X12_isIn.2.1 88 = .ok (.iconst 1, 1) := by decide +kernel
theorem dd_X12_isIn_89 : decode Y_X12_isIn.2.1 89 = .ok (.ireturn, 1) := by decide +kernel
theorem dd_X12_isIn_90 : decode Y_X12_isIn.2.1 90 = .ok (.iinc 3 1, 3) := by decide +kernel
theorem dd_X12_isIn_93 : decode Y_X12_isIn.2.1 93 = .ok (.goto (-91), 3) := by decide +kernel
theorem dd_X12_isIn_96 : decode Y_X12_isIn.2.1 96 = .ok (.iconst 0, 1) := by decide +kernel
theorem dd_X12_isIn_97 : decode Y_X12_isIn.2.1 97 = .ok (.ireturn, 1) := by decide +kernel
def F_X12_isIn_L25 (x0 : Nat) (x1 : Int32) (x2 : Int32) (x3 : Int32) (K83 : Int32 → zM → zO) : Nat → Int32 → Int32 → zM → zO
  | 0, _, _, _ => none
  | n + 1, x4, x5, M => zck (zin x1 8) (zit ((M (zgr x0 6) (zix x1)) ≤ x5) (K83 x4 M) (zit (x4 = 0) (K83 x4 M) (zck (zin ((9 * x1) + x5) 72) (zck (zin (((9 * x2) + x3) + x5) 72) (zjo (fun (w1 : Int32) (M1 : zM) => F_X12_isIn_L25 x0 x1 x2 x3 K83 n w1 (x5 + 1) M1) (fun (k1 : Int32 → zM → zO) => zit ((M (zgr x0 5) (zix ((9 * x1) + x5))) = (M (zgr x0 5) (zix (((9 * x2) + x3) + x5)))) (k1 1 M) (k1 0 M)))))))
def F_X12_isIn_L2 (x0 : Nat) (x1 : Int32) (x2 : Int32) (K96 : zM → zO) : Nat → Int32 → zM → zO
  | 0, _, _ => none
  | n + 1, x3, M => zck (zin x1 8) (zck (zin x2 8) (zit ((M (zgr x0 6) (zix x2)) < (x3 + (M (zgr x0 6) (zix x1)))) (K96 M) (F_X12_isIn_L25 x0 x1 x2 x3 (fun (y1 : Int32) (M2 : zM) => zit (y1 = 0) (F_X12_isIn_L2 x0 x1 x2 K96 n (x3 + 1) M2) (zck (zbo 1) (zI 1 M2))) zN 1 0 M)))
def F_X12_isIn (t : Nat) (a1 : Int32) (a2 : Int32) (M : zM) : zO := F_X12_isIn_L2 t a1 a2 (fun  (M3 : zM) => zck (zbo 0) (zI 0 M3)) zN 0 M
set_option maxHeartbeats 1000000 in
set_option maxRecDepth 20000 in
theorem ct_X12_isIn_L25 (l : Launch) (hl : l.stackTraces = false) (G : zG) (x0 : Nat) (hx0 : zsh x0 = 12) (x1 : Int32) (x2 : Int32) (x3 : Int32) (K83 : Int32 → zM → zO) (hK83 : ∀ (x4 : Int32) (M : zM), zEv l G Y_X12_isIn 1 0 83 [(0, .ref (G.2.1 + x0)), (1, .int x1), (2, .int x2), (3, .int x3), (4, .int x4)] [] M (K83 x4 M)) : ∀ (n : Nat) (x4 : Int32) (x5 : Int32) (M : zM), zEv l G Y_X12_isIn 1 0 25 [(0, .ref (G.2.1 + x0)), (1, .int x1), (2, .int x2), (3, .int x3), (4, .int x4), (5, .int x5)] [] M (F_X12_isIn_L25 x0 x1 x2 x3 K83 n x4 x5 M) := by
  intro n
  induction n with
  | zero => intro x4 x5 M; exact ev_none
  | succ n ih =>
    intro x4 x5 M
    show zEv l G Y_X12_isIn 1 0 25 [(0, .ref (G.2.1 + x0)), (1, .int x1), (2, .int x2), (3, .int x3), (4, .int x4), (5, .int x5)] [] M (zck (zin x1 8) (zit ((M (zgr x0 6) (zix x1)) ≤ x5) (K83 x4 M) (zit (x4 = 0) (K83 x4 M) (zck (zin ((9 * x1) + x5) 72) (zck (zin (((9 * x2) + x3) + x5) 72) (zjo (fun (w1 : Int32) (M1 : zM) => F_X12_isIn_L25 x0 x1 x2 x3 K83 n w1 (x5 + 1) M1) (fun (k1 : Int32 → zM → zO) => zit ((M (zgr x0 5) (zix ((9 * x1) + x5))) = (M (zgr x0 5) (zix (((9 * x2) + x3) + x5)))) (k1 1 M) (k1 0 M))))))))
    refine ev_iload dd_X12_isIn_25 5 rfl ?_
    refine ev_aload_n dd_X12_isIn_27 0 rfl ?_
    refine ev_getR gf_RX12_20 dd_X12_isIn_28 hx0 (by decide) ?_
    refine ev_iload_n dd_X12_isIn_31 1 rfl ?_
    refine ev_iald dd_X12_isIn_32 ((zg_12_6 hx0).1) ((zg_12_6 hx0).2) ?_
    refine ev_icmp_ge 83 dd_X12_isIn_33 (by decide) ?_ ?_
    · refine ev_lv (lv' := [(0, .ref (G.2.1 + x0)), (1, .int x1), (2, .int x2), (3, .int x3), (4, .int x4)]) [0, 1, 2, 3, 4] rfl ?_
      exact hK83 _ _
    · refine ev_iload dd_X12_isIn_36 4 rfl ?_
      refine ev_if_eq 83 dd_X12_isIn_38 (by decide) ?_ ?_
      · refine ev_lv (lv' := [(0, .ref (G.2.1 + x0)), (1, .int x1), (2, .int x2), (3, .int x3), (4, .int x4)]) [0, 1, 2, 3, 4] rfl ?_
        exact hK83 _ _
      · refine ev_lv (lv' := [(0, .ref (G.2.1 + x0)), (1, .int x1), (2, .int x2), (3, .int x3), (5, .int x5)]) [0, 1, 2, 3, 5] rfl ?_
        refine ev_aload_n dd_X12_isIn_41 0 rfl ?_
        refine ev_getR gf_RX12_16 dd_X12_isIn_42 hx0 (by decide) ?_
        refine ev_bipush (v := 9) dd_X12_isIn_45 (by decide) ?_
        refine ev_iload_n dd_X12_isIn_47 1 rfl ?_
        refine ev_imul dd_X12_isIn_48 ?_
        refine ev_iload dd_X12_isIn_49 4 rfl ?_
        refine ev_iadd dd_X12_isIn_51 ?_
        refine ev_iald dd_X12_isIn_52 ((zg_12_5 hx0).1) ((zg_12_5 hx0).2) ?_
        refine ev_aload_n dd_X12_isIn_53 0 rfl ?_
        refine ev_getR gf_RX12_16 dd_X12_isIn_54 hx0 (by decide) ?_
        refine ev_bipush (v := 9) dd_X12_isIn_57 (by decide) ?_
        refine ev_iload_n dd_X12_isIn_59 2 rfl ?_
        refine ev_imul dd_X12_isIn_60 ?_
        refine ev_iload_n dd_X12_isIn_61 3 rfl ?_
        refine ev_iadd dd_X12_isIn_62 ?_
        refine ev_iload dd_X12_isIn_63 4 rfl ?_
        refine ev_iadd dd_X12_isIn_65 ?_
        refine ev_iald dd_X12_isIn_66 ((zg_12_5 hx0).1) ((zg_12_5 hx0).2) ?_
        refine ev_jo (fun (k1 : Int32 → zM → zO) => ∀ (w1 : Int32) (M1 : zM), zEv l G Y_X12_isIn 1 0 75 [(0, .ref (G.2.1 + x0)), (1, .int x1), (2, .int x2), (3, .int x3), (5, .int x5)] [.int w1] M1 (k1 w1 M1)) ?_ (fun k1 hk1 => ?_)
        · intro w1 M1
          refine ev_istore (i := 4) (lv' := [(0, .ref (G.2.1 + x0)), (1, .int x1), (2, .int x2), (3, .int x3), (4, .int w1), (5, .int x5)]) [1, 2, 3, 4, 0, 5] dd_X12_isIn_75 (by decide) rfl ?_
          refine ev_iinc (j := 5) (v := 1) (lv' := [(0, .ref (G.2.1 + x0)), (1, .int x1), (2, .int x2), (3, .int x3), (4, .int w1), (5, .int (x5 + 1))]) [1, 2, 3, 4, 5, 0] dd_X12_isIn_77 rfl (by decide) (by decide) rfl ?_
          refine ev_goto 25 dd_X12_isIn_80 (by decide) ?_
          exact ih _ _ _
        · refine ev_icmp_ne 74 dd_X12_isIn_67 (by decide) ?_ ?_
          · refine ev_iconst (v := 0) dd_X12_isIn_74 (by decide) ?_
            exact hk1 _ _
          · refine ev_iconst (v := 1) dd_X12_isIn_70 (by decide) ?_
            refine ev_goto 75 dd_X12_isIn_71 (by decide) ?_
            exact hk1 _ _
set_option maxHeartbeats 1000000 in
set_option maxRecDepth 20000 in
theorem ct_X12_isIn_L2 (l : Launch) (hl : l.stackTraces = false) (G : zG) (x0 : Nat) (hx0 : zsh x0 = 12) (x1 : Int32) (x2 : Int32) (K96 : zM → zO) (hK96 : ∀  (M : zM), zEv l G Y_X12_isIn 1 0 96 [] [] M (K96 M)) : ∀ (n : Nat) (x3 : Int32) (M : zM), zEv l G Y_X12_isIn 1 0 2 [(0, .ref (G.2.1 + x0)), (1, .int x1), (2, .int x2), (3, .int x3)] [] M (F_X12_isIn_L2 x0 x1 x2 K96 n x3 M) := by
  intro n
  induction n with
  | zero => intro x3 M; exact ev_none
  | succ n ih =>
    intro x3 M
    show zEv l G Y_X12_isIn 1 0 2 [(0, .ref (G.2.1 + x0)), (1, .int x1), (2, .int x2), (3, .int x3)] [] M (zck (zin x1 8) (zck (zin x2 8) (zit ((M (zgr x0 6) (zix x2)) < (x3 + (M (zgr x0 6) (zix x1)))) (K96 M) (F_X12_isIn_L25 x0 x1 x2 x3 (fun (y1 : Int32) (M2 : zM) => zit (y1 = 0) (F_X12_isIn_L2 x0 x1 x2 K96 n (x3 + 1) M2) (zck (zbo 1) (zI 1 M2))) zN 1 0 M))))
    refine ev_iload_n dd_X12_isIn_2 3 rfl ?_
    refine ev_aload_n dd_X12_isIn_3 0 rfl ?_
    refine ev_getR gf_RX12_20 dd_X12_isIn_4 hx0 (by decide) ?_
    refine ev_iload_n dd_X12_isIn_7 1 rfl ?_
    refine ev_iald dd_X12_isIn_8 ((zg_12_6 hx0).1) ((zg_12_6 hx0).2) ?_
    refine ev_iadd dd_X12_isIn_9 ?_
    refine ev_aload_n dd_X12_isIn_10 0 rfl ?_
    refine ev_getR gf_RX12_20 dd_X12_isIn_11 hx0 (by decide) ?_
    refine ev_iload_n dd_X12_isIn_14 2 rfl ?_
    refine ev_iald dd_X12_isIn_15 ((zg_12_6 hx0).1) ((zg_12_6 hx0).2) ?_
    refine ev_icmp_gt 96 dd_X12_isIn_16 (by decide) ?_ ?_
    · refine ev_lv (lv' := []) [] rfl ?_
      exact hK96 _
    · refine ev_iconst (v := 1) dd_X12_isIn_19 (by decide) ?_
      refine ev_istore (i := 4) (lv' := [(0, .ref (G.2.1 + x0)), (1, .int x1), (2, .int x2), (3, .int x3), (4, .int 1)]) [1, 2, 3, 4, 0] dd_X12_isIn_20 (by decide) rfl ?_
      refine ev_iconst (v := 0) dd_X12_isIn_22 (by decide) ?_
      refine ev_istore (i := 5) (lv' := [(0, .ref (G.2.1 + x0)), (1, .int x1), (2, .int x2), (3, .int x3), (4, .int 1), (5, .int 0)]) [1, 2, 3, 4, 5, 0] dd_X12_isIn_23 (by decide) rfl ?_
      refine ct_X12_isIn_L25 l hl G x0 hx0 x1 x2 x3 _ (fun y1 M2 => ?_) zN _ _ _
      refine ev_iload dd_X12_isIn_83 4 rfl ?_
      refine ev_lv (lv' := [(0, .ref (G.2.1 + x0)), (1, .int x1), (2, .int x2), (3, .int x3)]) [0, 1, 2, 3] rfl ?_
      refine ev_if_eq 90 dd_X12_isIn_85 (by decide) ?_ ?_
      · refine ev_iinc (j := 3) (v := 1) (lv' := [(0, .ref (G.2.1 + x0)), (1, .int x1), (2, .int x2), (3, .int (x3 + 1))]) [1, 2, 3, 0] dd_X12_isIn_90 rfl (by decide) (by decide) rfl ?_
        refine ev_goto 2 dd_X12_isIn_93 (by decide) ?_
        exact ih _ _
      · refine ev_lv (lv' := []) [] rfl ?_
        refine ev_iconst (v := 1) dd_X12_isIn_88 (by decide) ?_
        exact ev_zret dd_X12_isIn_89 rfl (Nat.le_of_ble_eq_true rfl) rfl
set_option maxHeartbeats 1000000 in
set_option maxRecDepth 20000 in
theorem ct_X12_isIn (l : Launch) (hl : l.stackTraces = false) (G : zG) (t : Nat) (ht : zsh t = 12) (a1 : Int32) (a2 : Int32) (M : zM) : zMt l G Y_X12_isIn 1 [.ref (G.2.1 + t), .int a1, .int a2] M (F_X12_isIn t a1 a2 M) := by
  refine zMt_of (by decide +kernel) (Nat.le_of_ble_eq_true rfl) ?_
  show zEv l G Y_X12_isIn 1 0 0 [(0, .ref (G.2.1 + t)), (1, .int a1), (2, .int a2)] [] M (F_X12_isIn_L2 t a1 a2 (fun  (M3 : zM) => zck (zbo 0) (zI 0 M3)) zN 0 M)
  refine ev_iconst (v := 0) dd_X12_isIn_0 (by decide) ?_
  refine ev_istore_n (i := 3) (lv' := [(0, .ref (G.2.1 + t)), (1, .int a1), (2, .int a2), (3, .int 0)]) [1, 2, 3, 0] dd_X12_isIn_1 rfl (by decide) rfl ?_
  refine ct_X12_isIn_L2 l hl G t ht a1 a2 _ (fun M3 => ?_) zN _ _
  refine ev_iconst (v := 0) dd_X12_isIn_96 (by decide) ?_
  exact ev_zret dd_X12_isIn_97 rfl (Nat.le_of_ble_eq_true rfl) rfl
/-! X12_inside -/
theorem dd_X12_inside_0 : decode Y_X12_inside.2.1 0 = .ok (.aload_n 0, 1) := by decide +kernel
theorem dd_X12_inside_1 : decode Y_X12_inside.2.1 1 = .ok (.iconst 0, 1) := by decide +kernel
theorem dd_X12_inside_2 : decode Y_X12_inside.2.1 2 = .ok (.putfield 153, 3) := by decide +kernel
theorem dd_X12_inside_5 : decode Y_X12_inside.2.1 5 = .ok (.aload_n 0, 1) := by decide +kernel
theorem dd_X12_inside_6 : decode Y_X12_inside.2.1 6 = .ok (.iload_n 1, 1) := by decide +kernel
theorem dd_X12_inside_7 : decode Y_X12_inside.2.1 7 = .ok (.invokevirtual 346, 3) := by decide +kernel
theorem dd_X12_inside_10 : decode Y_X12_inside.2.1 10 = .ok (.ifCond .eq 24, 3) := by decide +kernel
theorem dd_X12_inside_13 : decode Y_X12_inside.2.1 13 = .ok (.aload_n 0, 1) := by decide +kernel
theorem dd_X12_inside_14 : decode Y_X12_inside.2.1 14 = .ok (.iload_n 2, 1) := by decide +kernel
theorem dd_X12_inside_15 : decode Y_X12_inside.2.1 15 = .ok (.invokevirtual 346, 3) := by decide +kernel
theorem dd_X12_inside_18 : decode Y_X12_inside.2.1 18 = .ok (.ifCond .eq 16, 3) := by decide +kernel
theorem dd_X12_inside_21 : decode Y_X12_inside.2.1 21 = .ok (.aload_n 0, 1) := by decide +kernel
theorem dd_X12_inside_22 : decode Y_X12_inside.2.1 22 = .ok (.iload_n 1, 1) := by decide +kernel
theorem dd_X12_inside_23 : decode Y_X12_inside.2.1 23 = .ok (.iload_n 2, 1) := by decide +kernel
theorem dd_X12_inside_24 : decode Y_X12_inside.2.1 24 = .ok (.invokevirtual 431, 3) := by decide +kernel
theorem dd_X12_inside_27 : decode Y_X12_inside.2.1 27 = .ok (.ifCond .eq 7, 3) := by decide +kernel
theorem dd_X12_inside_30 : decode Y_X12_inside.2.1 30 = .ok (.iconst 1, 1) := by decide +kernel
theorem dd_X12_inside_31 : decode Y_X12_inside.2.1 31 = .ok (.goto 4, 3) := by decide +kernel
theorem dd_X12_inside_34 : decode Y_X12_inside.2.1 34 = .ok (.iconst 0, 1) := by decide +kernel
theorem dd_X12_inside_35 : decode Y_X12_inside.2.1 35 = .ok (.ireturn, 1) := by decide +kernel
def F_X12_inside (t : Nat) (a1 : Int32) (a2 : Int32) (M : zM) : zO := zst (zup M t 0 0) (fun M1 => zbI (F_X12_isOne t a1 M1) (fun r1 M2 => zjo (fun (w1 : Int32) (M6 : zM) => zck (zbo w1) (zI w1 M6)) (fun (k1 : Int32 → zM → zO) => zjo (fun  (M5 : zM) => k1 0 M5) (fun (k2 : zM → zO) => zit (r1 = 0) (k2 M2) (zbI (F_X12_isOne t a2 M2) (fun r2 M3 => zit (r2 = 0) (k2 M3) (zbI (F_X12_isIn t a1 a2 M3) (fun r3 M4 => zit (r3 = 0) (k2 M4) (k1 1 M4)))))))))
set_option maxHeartbeats 1000000 in
set_option maxRecDepth 20000 in
theorem ct_X12_inside (l : Launch) (hl : l.stackTraces = false) (G : zG) (t : Nat) (ht : zsh t = 12) (a1 : Int32) (a2 : Int32) (M : zM) : zMt l G Y_X12_inside 3 [.ref (G.2.1 + t), .int a1, .int a2] M (F_X12_inside t a1 a2 M) := by
  refine zMt_of (by decide +kernel) (Nat.le_of_ble_eq_true rfl) ?_
  show zEv l G Y_X12_inside 3 0 0 [(0, .ref (G.2.1 + t)), (1, .int a1), (2, .int a2)] [] M (zst (zup M t 0 0) (fun M1 => zbI (F_X12_isOne t a1 M1) (fun r1 M2 => zjo (fun (w1 : Int32) (M6 : zM) => zck (zbo w1) (zI w1 M6)) (fun (k1 : Int32 → zM → zO) => zjo (fun  (M5 : zM) => k1 0 M5) (fun (k2 : zM → zO) => zit (r1 = 0) (k2 M2) (zbI (F_X12_isOne t a2 M2) (fun r2 M3 => zit (r2 = 0) (k2 M3) (zbI (F_X12_isIn t a1 a2 M3) (fun r3 M4 => zit (r3 = 0) (k2 M4) (k1 1 M4))))))))))
  refine ev_aload_n dd_X12_inside_0 0 rfl ?_
  refine ev_iconst (v := 0) dd_X12_inside_1 (by decide) ?_
  refine ev_putI gw_RX12_153 dd_X12_inside_2 ht (by decide) ?_
  refine ev_st (fun M1 => ?_)
  refine ev_aload_n dd_X12_inside_5 0 rfl ?_
  refine ev_iload_n dd_X12_inside_6 1 rfl ?_
  refine ev_callVI (As := [.int a1]) cl_RX12_346 (ct_X12_isOne l hl G t ht a1 M1) dd_X12_inside_7 ht (by decide) (Nat.le_of_ble_eq_true rfl) (Nat.le_of_ble_eq_true rfl) rfl rfl (fun r1 M2 => ?_)
  refine ev_jo (fun (k1 : Int32 → zM → zO) => ∀ (w1 : Int32) (M6 : zM), zEv l G Y_X12_inside 3 0 35 [] [.int w1] M6 (k1 w1 M6)) ?_ (fun k1 hk1 => ?_)
  · intro w1 M6
    exact ev_zret dd_X12_inside_35 rfl (Nat.le_of_ble_eq_true rfl) rfl
  · refine ev_jo (fun (k2 : zM → zO) => ∀  (M5 : zM), zEv l G Y_X12_inside 3 0 34 [] [] M5 (k2 M5)) ?_ (fun k2 hk2 => ?_)
    · intro M5
      refine ev_iconst (v := 0) dd_X12_inside_34 (by decide) ?_
      exact hk1 _ _
    · refine ev_if_eq 34 dd_X12_inside_10 (by decide) ?_ ?_
      · refine ev_lv (lv' := []) [] rfl ?_
        exact hk2 _
      · refine ev_aload_n dd_X12_inside_13 0 rfl ?_
        refine ev_iload_n dd_X12_inside_14 2 rfl ?_
        refine ev_callVI (As := [.int a2]) cl_RX12_346 (ct_X12_isOne l hl G t ht a2 M2) dd_X12_inside_15 ht (by decide) (Nat.le_of_ble_eq_true rfl) (Nat.le_of_ble_eq_true rfl) rfl rfl (fun r2 M3 => ?_)
        refine ev_if_eq 34 dd_X12_inside_18 (by decide) ?_ ?_
        · refine ev_lv (lv' := []) [] rfl ?_
          exact hk2 _
        · refine ev_aload_n dd_X12_inside_21 0 rfl ?_
          refine ev_lv (lv' := [(1, .int a1), (2, .int a2)]) [1, 2] rfl ?_
          refine ev_iload_n dd_X12_inside_22 0 rfl ?_
          refine ev_lv (lv' := [(2, .int a2)]) [1] rfl ?_
          refine ev_iload_n dd_X12_inside_23 0 rfl ?_
          refine ev_lv (lv' := []) [] rfl ?_
          refine ev_callVI (As := [.int a1, .int a2]) cl_RX12_431 (ct_X12_isIn l hl G t ht a1 a2 M3) dd_X12_inside_24 ht (by decide) (Nat.le_of_ble_eq_true rfl) (Nat.le_of_ble_eq_true rfl) rfl rfl (fun r3 M4 => ?_)
          refine ev_if_eq 34 dd_X12_inside_27 (by decide) ?_ ?_
          · exact hk2 _
          · refine ev_iconst (v := 1) dd_X12_inside_30 (by decide) ?_
            refine ev_goto 35 dd_X12_inside_31 (by decide) ?_
            exact hk1 _ _
/-! X12_isArrangement -/
theorem dd_X12_isArrangement_0 : decode Y_X12_isArrangement.2.1 0 = .ok (.iload_n 1, 1) := by decide +kernel
theorem dd_X12_isArrangement_1 : decode Y_X12_isArrangement.2.1 1 = .ok (.ifCond .ge 5, 3) := by decide +kernel
theorem dd_X12_isArrangement_4 : decode Y_X12_isArrangement.2.1 4 = .ok (.iconst 0, 1) := by decide +kernel
theorem dd_X12_isArrangement_5 : decode Y_X12_isArrangement.2.1 5 = .ok (.ireturn, 1) := by decide +kernel
theorem dd_X12_isArrangement_6 : decode Y_X12_isArrangement.2.1 6 = .ok (.iload_n 1, 1) := by decide +kernel
theorem dd_X12_isArrangement_7 : decode Y_X12_isArrangement.2.1 7 = .ok (.istore_n 2, 1) := by decide +kernel
theorem dd_X12_isArrangement_8 : decode Y_X12_isArrangement.2.1 8 = .ok (.iconst 0, 1) := by decide +kernel
theorem dd_X12_isArrangement_9 : decode Y_X12_isArrangement.2.1 9 = .ok (.istore_n 3, 1) := by decide +kernel
theorem dd_X12_isArrangement_10 : decode Y_X12_isArrangement.2.1 10 = .ok (.iconst 0, 1) := by decide +kernel
theorem dd_X12_isArrangement_11 : decode Y_X12_isArrangement.2.1 11 = .ok (.istore 4, 2) := by decide +kernel
theorem dd_X12_isArrangement_13 : decode Y_X12_isArrangement.2.1 13 = .ok (.iload 4, 2) := by decide +kernel
theorem dd_X12_isArrangement_15 : decode Y_X12_isArrangement.2.1 15 = .ok (.aload_n 0, 1) := by decide +kernel
theorem dd_X12_isArrangement_16 : decode Y_X12_isArrangement.2.1 16 = .ok (.getfield 319, 3) := by decide +kernel
theorem dd_X12_isArrangement_19 : decode Y_X12_isArrangement.2.1 19 = .ok (.if_icmp .ge 34, 3) := by decide +kernel
theorem dd_X12_isArrangement_22 : decode Y_X12_isArrangement.2.1 22 = .ok (.aload_n 0, 1) := by decide +kernel
theorem dd_X12_isArrangement_23 : decode Y_X12_isArrangement.2.1 23 = .ok (.getfield 120, 3) := by decide +kernel
theorem dd_X12_isArrangement_26 : decode Y_X12_isArrangement.2.1 26 = .ok (.iload 4, 2) := by decide +kernel
theorem dd_X12_isArrangement_28 : decode Y_X12_isArrangement.2.1 28 = .ok (.iload_n 2, 1) := by decide +kernel
theorem dd_X12_isArrangement_29 : decode Y_X12_isArrangement.2.1 29 = .ok (.bipush 8, 2) := by decide +kernel
theorem dd_X12_isArrangement_31 : decode Y_X12_isArrangement.2.1 31 = .ok (.irem, 1) := by decide +kernel
theorem dd_X12_isArrangement_32 : decode Y_X12_isArrangement.2.1 32 = .ok (.iastore, 1) := by decide +kernel
theorem dd_X12_isArrangement_33 : decode Y_X12_isArrangement.2.1 33 = .ok (.iload_n 3, 1) := by decide +kernel
theorem dd_X12_isArrangement_34 : decode Y_X12_isArrangement.2.1 34 = .ok (.iconst 1, 1) := by decide +kernel
theorem dd_X12_isArrangement_35 : decode Y_X12_isArrangement.2.1 35 = .ok (.iload_n 2, 1) := by decide +kernel
theorem dd_X12_isArrangement_36 : decode Y_X12_isArrangement.2.1 36 = .ok (.bipush 8, 2) := by decide +kernel
theorem dd_X12_isArrangement_38 : decode Y_X12_isArrangement.2.1 38 = .ok (.irem, 1) := by decide +kernel
theorem dd_X12_isArrangement_39 : decode Y_X12_isArrangement.2.1 39 = .ok (.ishl, 1) := by decide +kernel
theorem dd_X12_isArrangement_40 : decode Y_X12_isArrangement.2.1 40 = .ok (.ior, 1) := by decide +kernel
theorem dd_X12_isArrangement_41 : decode Y_X12_isArrangement.2.1 41 = .ok (.istore_n 3, 1) := by decide +kernel
theorem dd_X12_isArrangement_42 : decode Y_X12_isArrangement.2.1 42 = .ok (.iload_n 2, 1) := by decide +kernel
theorem dd_X12_isArrangement_43 : decode Y_X12_isArrangement.2.1 43 = .ok (.bipush 8, 2) := by decide +kernel
theorem dd_X12_isArrangement_45 : decode Y_X12_isArrangement.2.1 45 = .ok (.idiv, 1) := by decide +kernel
theorem dd_X12_isArrangement_46 : decode Y_X12_isArrangement.2.1 46 = .ok (.istore_n 2, 1) := by decide +kernel
theorem dd_X12_isArrangement_47 : decode Y_X12_isArrangement.2.1 47 = .ok (.iinc 4 1, 3) := by decide +kernel
theorem dd_X12_isArrangement_50 : decode Y_X12_isArrangement.2.1 50 = .ok (.goto (-37), 3) := by decide +kernel
theorem dd_X12_isArrangement_53 : decode Y_X12_isArrangement.2.1 53 = .ok (.iload_n 2, 1) := by decide +kernel
theorem dd_X12_isArrangement_54 : decode Y_X12_isArrangement.2.1 54 = .ok (.ifCond .ne 19, 3) := by decide +kernel
theorem dd_X12_isArrangement_57 : decode Y_X12_isArrangement.2.1 57 = .ok (.iload_n 3, 1) := by decide +kernel
theorem dd_X12_isArrangement_58 : decode Y_X12_isArrangement.2.1 58 = .ok (.iconst 1, 1) := by decide +kernel
theorem dd_X12_isArrangement_59 : decode Y_X12_isArrangement.2.1 59 = .ok (.aload_n 0, 1) := by decide +kernel
theorem dd_X12_isArrangement_60 : decode Y_X12_isArrangement.2.1 60 = .ok (.getfield 319, 3) := by decide +kernel
theorem dd_X12_isArrangement_63 : decode Y_X12_isArrangement.2.1 63 = .ok (.ishl, 1) := by decide +kernel
theorem dd_X12_isArrangement_64 : decode Y_X12_isArrangement.2.1 64 = .ok (.iconst 1, 1) := by decide +kernel
theorem dd_X12_isArrangement_65 : decode Y_X12_isArrangement.2.1 65 = .ok (.isub, 1) := by decide +kernel
theorem dd_X12_isArrangement_66 : decode Y_X12_isArrangement.2.1 66 = .ok (.if_icmp .ne 7, 3) := by decide +kernel
theorem dd_X12_isArrangement_69 : decode Y_X12_isArrangement.2.1 69 = .ok (.iconst 1, 1) := by decide +kernel
theorem dd_X12_isArrangement_70 : decode Y_X12_isArrangement.2.1 70 = .ok (.goto 4, 3) := by decide +kernel
theorem dd_X12_isArrangement_73 : decode Y_X12_isArrangement.2.1 73 = .ok (.iconst 0, 1) := by decide +kernel
theorem dd_X12_isArrangement_74 : decode Y_X12_isArrangement.2.1 74 = .ok (.ireturn, 1) := by decide +kernel
def F_X12_isArrangement_L13 (x0 : Nat) (K53 : Int32 → Int32 → zM → zO) : Nat → Int32 → Int32 → Int32 → zM → zO
  | 0, _, _, _, _ => none
  | n + 1, x2, x3, x4, M => zit ((M x0 1) ≤ x4) (K53 x2 x3 M) (zck (!decide (8 = 0)) (zck (zin x4 8) (zst (zup M (zgr x0 59) (zix x4) (x2 - x2 / 8 * 8)) (fun M1 => zck (!decide (8 = 0)) (zlt (x3 ||| ((1 : Int32) <<< ((x2 - x2 / 8 * 8) &&& 31))) (fun v1 => zck (!decide (8 = 0)) (zlt (x2 / 8) (fun v2 => F_X12_isArrangement_L13 x0 K53 n v2 v1 (x4 + 1) M1))))))))
def F_X12_isArrangement (t : Nat) (a1 : Int32) (M : zM) : zO := zit (0 ≤ a1) (F_X12_isArrangement_L13 t (fun (y1 : Int32) (y2 : Int32) (M2 : zM) => zjo (fun (w1 : Int32) (M4 : zM) => zck (zbo w1) (zI w1 M4)) (fun (k1 : Int32 → zM → zO) => zjo (fun  (M3 : zM) => k1 0 M3) (fun (k2 : zM → zO) => zit (y1 = 0) (zit (y2 = (((1 : Int32) <<< ((M2 t 1) &&& 31)) - 1)) (k1 1 M2) (k2 M2)) (k2 M2)))) zN a1 0 0 M) (zck (zbo 0) (zI 0 M))
set_option maxHeartbeats 1000000 in
set_option maxRecDepth 20000 in
theorem ct_X12_isArrangement_L13 (l : Launch) (hl : l.stackTraces = false) (G : zG) (x0 : Nat) (hx0 : zsh x0 = 12) (K53 : Int32 → Int32 → zM → zO) (hK53 : ∀ (x2 : Int32) (x3 : Int32) (M : zM), zEv l G Y_X12_isArrangement 1 0 53 [(0, .ref (G.2.1 + x0)), (2, .int x2), (3, .int x3)] [] M (K53 x2 x3 M)) : ∀ (n : Nat) (x2 : Int32) (x3 : Int32) (x4 : Int32) (M : zM), zEv l G Y_X12_isArrangement 1 0 13 [(0, .ref (G.2.1 + x0)), (2, .int x2), (3, .int x3), (4, .int x4)] [] M (F_X12_isArrangement_L13 x0 K53 n x2 x3 x4 M) := by
  intro n
  induction n with
  | zero => intro x2 x3 x4 M; exact ev_none
  | succ n ih =>
    intro x2 x3 x4 M
    show zEv l G Y_X12_isArrangement 1 0 13 [(0, .ref (G.2.1 + x0)), (2, .int x2), (3, .int x3), (4, .int x4)] [] M (zit ((M x0 1) ≤ x4) (K53 x2 x3 M) (zck (!decide (8 = 0)) (zck (zin x4 8) (zst (zup M (zgr x0 59) (zix x4) (x2 - x2 / 8 * 8)) (fun M1 => zck (!decide (8 = 0)) (zlt (x3 ||| ((1 : Int32) <<< ((x2 - x2 / 8 * 8) &&& 31))) (fun v1 => zck (!decide (8 = 0)) (zlt (x2 / 8) (fun v2 => F_X12_isArrangement_L13 x0 K53 n v2 v1 (x4 + 1) M1)))))))))
    refine ev_iload dd_X12_isArrangement_13 3 rfl ?_
    refine ev_aload_n dd_X12_isArrangement_15 0 rfl ?_
    refine ev_getI gf_RX12_319 dd_X12_isArrangement_16 hx0 (by decide) ?_
    refine ev_icmp_ge 53 dd_X12_isArrangement_19 (by decide) ?_ ?_
    · refine ev_lv (lv' := [(0, .ref (G.2.1 + x0)), (2, .int x2), (3, .int x3)]) [0, 1, 2] rfl ?_
      exact hK53 _ _ _
    · refine ev_aload_n dd_X12_isArrangement_22 0 rfl ?_
      refine ev_getR gf_RX12_120 dd_X12_isArrangement_23 hx0 (by decide) ?_
      refine ev_iload dd_X12_isArrangement_26 3 rfl ?_
      refine ev_iload_n dd_X12_isArrangement_28 1 rfl ?_
      refine ev_bipush (v := 8) dd_X12_isArrangement_29 (by decide) ?_
      refine ev_irem dd_X12_isArrangement_31 ?_
      refine ev_iast dd_X12_isArrangement_32 ((zg_12_59 hx0).1) ((zg_12_59 hx0).2) ?_
      refine ev_st (fun M1 => ?_)
      refine ev_iload_n dd_X12_isArrangement_33 2 rfl ?_
      refine ev_lv (lv' := [(0, .ref (G.2.1 + x0)), (2, .int x2), (4, .int x4)]) [0, 1, 3] rfl ?_
      refine ev_iconst (v := 1) dd_X12_isArrangement_34 (by decide) ?_
      refine ev_iload_n dd_X12_isArrangement_35 1 rfl ?_
      refine ev_bipush (v := 8) dd_X12_isArrangement_36 (by decide) ?_
      refine ev_irem dd_X12_isArrangement_38 ?_
      refine ev_ishl dd_X12_isArrangement_39 ?_
      refine ev_ior dd_X12_isArrangement_40 ?_
      refine ev_topi (fun v1 => ?_)
      refine ev_istore_n (i := 3) (lv' := [(0, .ref (G.2.1 + x0)), (2, .int x2), (3, .int v1), (4, .int x4)]) [1, 2, 0, 3] dd_X12_isArrangement_41 rfl (by decide) rfl ?_
      refine ev_iload_n dd_X12_isArrangement_42 1 rfl ?_
      refine ev_lv (lv' := [(0, .ref (G.2.1 + x0)), (3, .int v1), (4, .int x4)]) [0, 2, 3] rfl ?_
      refine ev_bipush (v := 8) dd_X12_isArrangement_43 (by decide) ?_
      refine ev_idiv dd_X12_isArrangement_45 ?_
      refine ev_topi (fun v2 => ?_)
      refine ev_istore_n (i := 2) (lv' := [(0, .ref (G.2.1 + x0)), (2, .int v2), (3, .int v1), (4, .int x4)]) [1, 0, 2, 3] dd_X12_isArrangement_46 rfl (by decide) rfl ?_
      refine ev_iinc (j := 3) (v := 1) (lv' := [(0, .ref (G.2.1 + x0)), (2, .int v2), (3, .int v1), (4, .int (x4 + 1))]) [1, 2, 3, 0] dd_X12_isArrangement_47 rfl (by decide) (by decide) rfl ?_
      refine ev_goto 13 dd_X12_isArrangement_50 (by decide) ?_
      exact ih _ _ _ _
set_option maxHeartbeats 1000000 in
set_option maxRecDepth 20000 in
theorem ct_X12_isArrangement (l : Launch) (hl : l.stackTraces = false) (G : zG) (t : Nat) (ht : zsh t = 12) (a1 : Int32) (M : zM) : zMt l G Y_X12_isArrangement 1 [.ref (G.2.1 + t), .int a1] M (F_X12_isArrangement t a1 M) := by
  refine zMt_of (by decide +kernel) (Nat.le_of_ble_eq_true rfl) ?_
  show zEv l G Y_X12_isArrangement 1 0 0 [(0, .ref (G.2.1 + t)), (1, .int a1)] [] M (zit (0 ≤ a1) (F_X12_isArrangement_L13 t (fun (y1 : Int32) (y2 : Int32) (M2 : zM) => zjo (fun (w1 : Int32) (M4 : zM) => zck (zbo w1) (zI w1 M4)) (fun (k1 : Int32 → zM → zO) => zjo (fun  (M3 : zM) => k1 0 M3) (fun (k2 : zM → zO) => zit (y1 = 0) (zit (y2 = (((1 : Int32) <<< ((M2 t 1) &&& 31)) - 1)) (k1 1 M2) (k2 M2)) (k2 M2)))) zN a1 0 0 M) (zck (zbo 0) (zI 0 M)))
  refine ev_iload_n dd_X12_isArrangement_0 1 rfl ?_
  refine ev_if_ge 6 dd_X12_isArrangement_1 (by decide) ?_ ?_
  · refine ev_iload_n dd_X12_isArrangement_6 1 rfl ?_
    refine ev_lv (lv' := [(0, .ref (G.2.1 + t))]) [0] rfl ?_
    refine ev_istore_n (i := 2) (lv' := [(0, .ref (G.2.1 + t)), (2, .int a1)]) [1, 0] dd_X12_isArrangement_7 rfl (by decide) rfl ?_
    refine ev_iconst (v := 0) dd_X12_isArrangement_8 (by decide) ?_
    refine ev_istore_n (i := 3) (lv' := [(0, .ref (G.2.1 + t)), (2, .int a1), (3, .int 0)]) [1, 2, 0] dd_X12_isArrangement_9 rfl (by decide) rfl ?_
    refine ev_iconst (v := 0) dd_X12_isArrangement_10 (by decide) ?_
    refine ev_istore (i := 4) (lv' := [(0, .ref (G.2.1 + t)), (2, .int a1), (3, .int 0), (4, .int 0)]) [1, 2, 3, 0] dd_X12_isArrangement_11 (by decide) rfl ?_
    refine ct_X12_isArrangement_L13 l hl G t ht _ (fun y1 y2 M2 => ?_) zN _ _ _ _
    refine ev_iload_n dd_X12_isArrangement_53 1 rfl ?_
    refine ev_lv (lv' := [(0, .ref (G.2.1 + t)), (3, .int y2)]) [0, 2] rfl ?_
    refine ev_jo (fun (k1 : Int32 → zM → zO) => ∀ (w1 : Int32) (M4 : zM), zEv l G Y_X12_isArrangement 1 0 74 [] [.int w1] M4 (k1 w1 M4)) ?_ (fun k1 hk1 => ?_)
    · intro w1 M4
      exact ev_zret dd_X12_isArrangement_74 rfl (Nat.le_of_ble_eq_true rfl) rfl
    · refine ev_jo (fun (k2 : zM → zO) => ∀  (M3 : zM), zEv l G Y_X12_isArrangement 1 0 73 [] [] M3 (k2 M3)) ?_ (fun k2 hk2 => ?_)
      · intro M3
        refine ev_iconst (v := 0) dd_X12_isArrangement_73 (by decide) ?_
        exact hk1 _ _
      · refine ev_if_ne 73 dd_X12_isArrangement_54 (by decide) ?_ ?_
        · refine ev_lv (lv' := []) [] rfl ?_
          exact hk2 _
        · refine ev_iload_n dd_X12_isArrangement_57 1 rfl ?_
          refine ev_lv (lv' := [(0, .ref (G.2.1 + t))]) [0] rfl ?_
          refine ev_iconst (v := 1) dd_X12_isArrangement_58 (by decide) ?_
          refine ev_aload_n dd_X12_isArrangement_59 0 rfl ?_
          refine ev_lv (lv' := []) [] rfl ?_
          refine ev_getI gf_RX12_319 dd_X12_isArrangement_60 ht (by decide) ?_
          refine ev_ishl dd_X12_isArrangement_63 ?_
          refine ev_iconst (v := 1) dd_X12_isArrangement_64 (by decide) ?_
          refine ev_isub dd_X12_isArrangement_65 ?_
          refine ev_icmp_ne 73 dd_X12_isArrangement_66 (by decide) ?_ ?_
          · exact hk2 _
          · refine ev_iconst (v := 1) dd_X12_isArrangement_69 (by decide) ?_
            refine ev_goto 74 dd_X12_isArrangement_70 (by decide) ?_
            exact hk1 _ _
  · refine ev_lv (lv' := []) [] rfl ?_
    refine ev_iconst (v := 0) dd_X12_isArrangement_4 (by decide) ?_
    exact ev_zret dd_X12_isArrangement_5 rfl (Nat.le_of_ble_eq_true rfl) rfl
/-! X12_isWordOf -/
theorem dd_X12_isWordOf_0 : decode Y_X12_isWordOf.2.1 0 = .ok (.aload_n 0, 1) := by decide +kernel
theorem dd_X12_isWordOf_1 : decode Y_X12_isWordOf.2.1 1 = .ok (.getfield 56, 3) := by decide +kernel
theorem dd_X12_isWordOf_4 : decode Y_X12_isWordOf.2.1 4 = .ok (.iload_n 1, 1) := by decide +kernel
theorem dd_X12_isWordOf_5 : decode Y_X12_isWordOf.2.1 5 = .ok (.iaload, 1) := by decide +kernel
theorem dd_X12_isWordOf_6 : decode Y_X12_isWordOf.2.1 6 = .ok (.aload_n 0, 1) := by decide +kernel
theorem dd_X12_isWordOf_7 : decode Y_X12_isWordOf.2.1 7 = .ok (.getfield 196, 3) := by decide +kernel
theorem dd_X12_isWordOf_10 : decode Y_X12_isWordOf.2.1 10 = .ok (.if_icmp .eq 5, 3) := by decide +kernel
theorem dd_X12_isWordOf_13 : decode Y_X12_isWordOf.2.1 13 = .ok (.iconst 0, 1) := by decide +kernel
theorem dd_X12_isWordOf_14 : decode Y_X12_isWordOf.2.1 14 = .ok (.ireturn, 1) := by decide +kernel
theorem dd_X12_isWordOf_15 : decode Y_X12_isWordOf.2.1 15 = .ok (.iconst 0, 1) := by decide +kernel
theorem dd_X12_isWordOf_16 : decode Y_X12_isWordOf.2.1 16 = .ok (.istore_n 2, 1) := by decide +kernel
theorem dd_X12_isWordOf_17 : decode Y_X12_isWordOf.2.1 17 = .ok (.iload_n 2, 1) := by decide +kernel
theorem dd_X12_isWordOf_18 : decode Y_X12_isWordOf.2.1 18 = .ok (.aload_n 0, 1) := by decide +kernel
theorem dd_X12_isWordOf_19 : decode Y_X12_isWordOf.2.1 19 = .ok (.getfield 196, 3) := by decide +kernel
theorem dd_X12_isWordOf_22 : decode Y_X12_isWordOf.2.1 22 = .ok (.if_icmp .ge 38, 3) := by decide +kernel
theorem dd_X12_isWordOf_25 : decode Y_X12_isWordOf.2.1 25 = .ok (.aload_n 0, 1) := by decide +kernel
theorem dd_X12_isWordOf_26 : decode Y_X12_isWordOf.2.1 26 = .ok (.getfield 53, 3) := by decide +kernel
theorem dd_X12_isWordOf_29 : decode Y_X12_isWordOf.2.1 29 = .ok (.bipush 9, 2) := by decide +kernel
theorem dd_X12_isWordOf_31 : decode Y_X12_isWordOf.2.1 31 = .ok (.iload_n 1, 1) := by decide +kernel
theorem dd_X12_isWordOf_32 : decode Y_X12_isWordOf.2.1 32 = .ok (.imul, 1) := by decide +kernel
theorem dd_X12_isWordOf_33 : decode Y_X12_isWordOf.2.1 33 = .ok (.iload_n 2, 1) := by decide +kernel
theorem dd_X12_isWordOf_34 : decode Y_X12_isWordOf.2.1 34 = .ok (.iadd, 1) := by decide +kernel
theorem dd_X12_isWordOf_35 : decode Y_X12_isWordOf.2.1 35 = .ok (.iaload, 1) := by decide +kernel
theorem dd_X12_isWordOf_36 : decode Y_X12_isWordOf.2.1 36 = .ok (.aload_n 0, 1) := by decide +kernel
theorem dd_X12_isWordOf_37 : decode Y_X12_isWordOf.2.1 37 = .ok (.aload_n 0, 1) := by decide +kernel
theorem dd_X12_isWordOf_38 : decode Y_X12_isWordOf.2.1 38 = .ok (.getfield 173, 3) := by decide +kernel
theorem dd_X12_isWordOf_41 : decode Y_X12_isWordOf.2.1 41 = .ok (.iload_n 2, 1) := by decide +kernel
theorem dd_X12_isWordOf_42 : decode Y_X12_isWordOf.2.1 42 = .ok (.iadd, 1) := by decide +kernel
theorem dd_X12_isWordOf_43 : decode Y_X12_isWordOf.2.1 43 = .ok (.invokevirtual 169, 3) := by decide +kernel
theorem dd_X12_isWordOf_46 : decode Y_X12_isWordOf.2.1 46 = .ok (.bipush 96, 2) := by decide +kernel
theorem dd_X12_isWordOf_48 : decode Y_X12_isWordOf.2.1 48 = .ok (.isub, 1) := by decide +kernel
theorem dd_X12_isWordOf_49 : decode Y_X12_isWordOf.2.1 49 = .ok (.if_icmp .eq 5, 3) := by decide +kernel
theorem dd_X12_isWordOf_52 : decode Y_X12_isWordOf.2.1 52 = .ok (.iconst 0, 1) := by decide +kernel
theorem dd_X12_isWordOf_53 : decode Y_X12_isWordOf.2.1 53 = .ok (.ireturn, 1) := by decide +kernel
theorem dd_X12_isWordOf_54 : decode Y_X12_isWordOf.2.1 54 = .ok (.iinc 2 1, 3) := by decide +kernel
theorem dd_X12_isWordOf_57 : decode Y_X12_isWordOf.2.1 57 = .ok (.goto (-40), 3) := by decide +kernel
theorem dd_X12_isWordOf_60 : decode Y_X12_isWordOf.2.1 60 = .ok (.iconst 1, 1) := by decide +kernel
theorem dd_X12_isWordOf_61 : decode Y_X12_isWordOf.2.1 61 = .ok (.ireturn, 1) := by decide +kernel
def F_X12_isWordOf_L17 (x0 : Nat) (x1 : Int32) (K60 : zM → zO) : Nat → Int32 → zM → zO
  | 0, _, _ => none
  | n + 1, x2, M => zit ((M x0 23) ≤ x2) (K60 M) (zck (zin ((9 * x1) + x2) 72) (zbI (F_X12_byteAt x0 ((M x0 22) + x2) M) (fun r1 M1 => zit ((M (zgr x0 36) (zix ((9 * x1) + x2))) = (r1 - 96)) (F_X12_isWordOf_L17 x0 x1 K60 n (x2 + 1) M1) (zck (zbo 0) (zI 0 M1)))))
def F_X12_isWordOf (t : Nat) (a1 : Int32) (M : zM) : zO := zck (zin a1 8) (zit ((M (zgr t 37) (zix a1)) = (M t 23)) (F_X12_isWordOf_L17 t a1 (fun  (M2 : zM) => zck (zbo 1) (zI 1 M2)) zN 0 M) (zck (zbo 0) (zI 0 M)))
set_option maxHeartbeats 1000000 in
set_option maxRecDepth 20000 in
theorem ct_X12_isWordOf_L17 (l : Launch) (hl : l.stackTraces = false) (G : zG) (x0 : Nat) (hx0 : zsh x0 = 12) (x1 : Int32) (K60 : zM → zO) (hK60 : ∀  (M : zM), zEv l G Y_X12_isWordOf 2 0 60 [] [] M (K60 M)) : ∀ (n : Nat) (x2 : Int32) (M : zM), zEv l G Y_X12_isWordOf 2 0 17 [(0, .ref (G.2.1 + x0)), (1, .int x1), (2, .int x2)] [] M (F_X12_isWordOf_L17 x0 x1 K60 n x2 M) := by
  intro n
  induction n with
  | zero => intro x2 M; exact ev_none
  | succ n ih =>
    intro x2 M
    show zEv l G Y_X12_isWordOf 2 0 17 [(0, .ref (G.2.1 + x0)), (1, .int x1), (2, .int x2)] [] M (zit ((M x0 23) ≤ x2) (K60 M) (zck (zin ((9 * x1) + x2) 72) (zbI (F_X12_byteAt x0 ((M x0 22) + x2) M) (fun r1 M1 => zit ((M (zgr x0 36) (zix ((9 * x1) + x2))) = (r1 - 96)) (F_X12_isWordOf_L17 x0 x1 K60 n (x2 + 1) M1) (zck (zbo 0) (zI 0 M1))))))
    refine ev_iload_n dd_X12_isWordOf_17 2 rfl ?_
    refine ev_aload_n dd_X12_isWordOf_18 0 rfl ?_
    refine ev_getI gf_RX12_196 dd_X12_isWordOf_19 hx0 (by decide) ?_
    refine ev_icmp_ge 60 dd_X12_isWordOf_22 (by decide) ?_ ?_
    · refine ev_lv (lv' := []) [] rfl ?_
      exact hK60 _
    · refine ev_aload_n dd_X12_isWordOf_25 0 rfl ?_
      refine ev_getR gf_RX12_53 dd_X12_isWordOf_26 hx0 (by decide) ?_
      refine ev_bipush (v := 9) dd_X12_isWordOf_29 (by decide) ?_
      refine ev_iload_n dd_X12_isWordOf_31 1 rfl ?_
      refine ev_imul dd_X12_isWordOf_32 ?_
      refine ev_iload_n dd_X12_isWordOf_33 2 rfl ?_
      refine ev_iadd dd_X12_isWordOf_34 ?_
      refine ev_iald dd_X12_isWordOf_35 ((zg_12_36 hx0).1) ((zg_12_36 hx0).2) ?_
      refine ev_aload_n dd_X12_isWordOf_36 0 rfl ?_
      refine ev_aload_n dd_X12_isWordOf_37 0 rfl ?_
      refine ev_getI gf_RX12_173 dd_X12_isWordOf_38 hx0 (by decide) ?_
      refine ev_iload_n dd_X12_isWordOf_41 2 rfl ?_
      refine ev_iadd dd_X12_isWordOf_42 ?_
      refine ev_callVI (As := [.int ((M x0 22) + x2)]) cl_RX12_169 (ct_X12_byteAt l hl G x0 hx0 ((M x0 22) + x2) M) dd_X12_isWordOf_43 hx0 (by decide) (Nat.le_of_ble_eq_true rfl) (Nat.le_of_ble_eq_true rfl) rfl rfl (fun r1 M1 => ?_)
      refine ev_bipush (v := 96) dd_X12_isWordOf_46 (by decide) ?_
      refine ev_isub dd_X12_isWordOf_48 ?_
      refine ev_icmp_eq 54 dd_X12_isWordOf_49 (by decide) ?_ ?_
      · refine ev_iinc (j := 2) (v := 1) (lv' := [(0, .ref (G.2.1 + x0)), (1, .int x1), (2, .int (x2 + 1))]) [1, 2, 0] dd_X12_isWordOf_54 rfl (by decide) (by decide) rfl ?_
        refine ev_goto 17 dd_X12_isWordOf_57 (by decide) ?_
        exact ih _ _
      · refine ev_lv (lv' := []) [] rfl ?_
        refine ev_iconst (v := 0) dd_X12_isWordOf_52 (by decide) ?_
        exact ev_zret dd_X12_isWordOf_53 rfl (Nat.le_of_ble_eq_true rfl) rfl
set_option maxHeartbeats 1000000 in
set_option maxRecDepth 20000 in
theorem ct_X12_isWordOf (l : Launch) (hl : l.stackTraces = false) (G : zG) (t : Nat) (ht : zsh t = 12) (a1 : Int32) (M : zM) : zMt l G Y_X12_isWordOf 2 [.ref (G.2.1 + t), .int a1] M (F_X12_isWordOf t a1 M) := by
  refine zMt_of (by decide +kernel) (Nat.le_of_ble_eq_true rfl) ?_
  show zEv l G Y_X12_isWordOf 2 0 0 [(0, .ref (G.2.1 + t)), (1, .int a1)] [] M (zck (zin a1 8) (zit ((M (zgr t 37) (zix a1)) = (M t 23)) (F_X12_isWordOf_L17 t a1 (fun  (M2 : zM) => zck (zbo 1) (zI 1 M2)) zN 0 M) (zck (zbo 0) (zI 0 M))))
  refine ev_aload_n dd_X12_isWordOf_0 0 rfl ?_
  refine ev_getR gf_RX12_56 dd_X12_isWordOf_1 ht (by decide) ?_
  refine ev_iload_n dd_X12_isWordOf_4 1 rfl ?_
  refine ev_iald dd_X12_isWordOf_5 ((zg_12_37 ht).1) ((zg_12_37 ht).2) ?_
  refine ev_aload_n dd_X12_isWordOf_6 0 rfl ?_
  refine ev_getI gf_RX12_196 dd_X12_isWordOf_7 ht (by decide) ?_
  refine ev_icmp_eq 15 dd_X12_isWordOf_10 (by decide) ?_ ?_
  · refine ev_iconst (v := 0) dd_X12_isWordOf_15 (by decide) ?_
    refine ev_istore_n (i := 2) (lv' := [(0, .ref (G.2.1 + t)), (1, .int a1), (2, .int 0)]) [1, 2, 0] dd_X12_isWordOf_16 rfl (by decide) rfl ?_
    refine ct_X12_isWordOf_L17 l hl G t ht a1 _ (fun M2 => ?_) zN _ _
    refine ev_iconst (v := 1) dd_X12_isWordOf_60 (by decide) ?_
    exact ev_zret dd_X12_isWordOf_61 rfl (Nat.le_of_ble_eq_true rfl) rfl
  · refine ev_lv (lv' := []) [] rfl ?_
    refine ev_iconst (v := 0) dd_X12_isWordOf_13 (by decide) ?_
    exact ev_zret dd_X12_isWordOf_14 rfl (Nat.le_of_ble_eq_true rfl) rfl
/-! X12_joined -/
theorem dd_X12_joined_0 : decode Y_X12_joined.2.1 0 = .ok (.aload_n 0, 1) := by decide +kernel
theorem dd_X12_joined_1 : decode Y_X12_joined.2.1 1 = .ok (.iconst 0, 1) := by decide +kernel
theorem dd_X12_joined_2 : decode Y_X12_joined.2.1 2 = .ok (.putfield 153, 3) := by decide +kernel
theorem dd_X12_joined_5 : decode Y_X12_joined.2.1 5 = .ok (.aload_n 0, 1) := by decide +kernel
theorem dd_X12_joined_6 : decode Y_X12_joined.2.1 6 = .ok (.iload_n 1, 1) := by decide +kernel
theorem dd_X12_joined_7 : decode Y_X12_joined.2.1 7 = .ok (.iload_n 2, 1) := by decide +kernel
theorem dd_X12_joined_8 : decode Y_X12_joined.2.1 8 = .ok (.invokevirtual 357, 3) := by decide +kernel
theorem dd_X12_joined_11 : decode Y_X12_joined.2.1 11 = .ok (.ifCond .ne 5, 3) := by decide +kernel
theorem dd_X12_joined_14 : decode Y_X12_joined.2.1 14 = .ok (.iconst 0, 1) := by decide +kernel
theorem dd_X12_joined_15 : decode Y_X12_joined.2.1 15 = .ok (.ireturn, 1) := by decide +kernel
theorem dd_X12_joined_16 : decode Y_X12_joined.2.1 16 = .ok (.aload_n 0, 1) := by decide +kernel
theorem dd_X12_joined_17 : decode Y_X12_joined.2.1 17 = .ok (.iload_n 1, 1) := by decide +kernel
theorem dd_X12_joined_18 : decode Y_X12_joined.2.1 18 = .ok (.iload_n 2, 1) := by decide +kernel
theorem dd_X12_joined_19 : decode Y_X12_joined.2.1 19 = .ok (.invokevirtual 428, 3) := by decide +kernel
theorem dd_X12_joined_22 : decode Y_X12_joined.2.1 22 = .ok (.istore 4, 2) := by decide +kernel
theorem dd_X12_joined_24 : decode Y_X12_joined.2.1 24 = .ok (.aload_n 0, 1) := by decide +kernel
theorem dd_X12_joined_25 : decode Y_X12_joined.2.1 25 = .ok (.getfield 20, 3) := by decide +kernel
theorem dd_X12_joined_28 : decode Y_X12_joined.2.1 28 = .ok (.iload_n 1, 1) := by decide +kernel
theorem dd_X12_joined_29 : decode Y_X12_joined.2.1 29 = .ok (.iaload, 1) := by decide +kernel
theorem dd_X12_joined_30 : decode Y_X12_joined.2.1 30 = .ok (.aload_n 0, 1) := by decide +kernel
theorem dd_X12_joined_31 : decode Y_X12_joined.2.1 31 = .ok (.getfield 20, 3) := by decide +kernel
theorem dd_X12_joined_34 : decode Y_X12_joined.2.1 34 = .ok (.iload_n 2, 1) := by decide +kernel
theorem dd_X12_joined_35 : decode Y_X12_joined.2.1 35 = .ok (.iaload, 1) := by decide +kernel
theorem dd_X12_joined_36 : decode Y_X12_joined.2.1 36 = .ok (.iadd, 1) := by decide +kernel
theorem dd_X12_joined_37 : decode Y_X12_joined.2.1 37 = .ok (.iload 4, 2) := by decide +kernel
theorem dd_X12_joined_39 : decode Y_X12_joined.2.1 39 = .ok (.isub, 1) := by decide +kernel
theorem dd_X12_joined_40 : decode Y_X12_joined.2.1 40 = .ok (.istore 5, 2) := by decide +kernel
theorem dd_X12_joined_42 : decode Y_X12_joined.2.1 42 = .ok (.aload_n 0, 1) := by decide +kernel
theorem dd_X12_joined_43 : decode Y_X12_joined.2.1 43 = .ok (.iload_n 3, 1) := by decide +kernel
theorem dd_X12_joined_44 : decode Y_X12_joined.2.1 44 = .ok (.iconst (-1), 1) := by decide +kernel
theorem dd_X12_joined_45 : decode Y_X12_joined.2.1 45 = .ok (.if_icmp .lt 13, 3) := by decide +kernel
theorem dd_X12_joined_48 : decode Y_X12_joined.2.1 48 = .ok (.iload_n 3, 1) := by decide +kernel
theorem dd_X12_joined_49 : decode Y_X12_joined.2.1 49 = .ok (.iload 5, 2) := by decide +kernel
theorem dd_X12_joined_51 : decode Y_X12_joined.2.1 51 = .ok (.if_icmp .ge 7, 3) := by decide +kernel
theorem dd_X12_joined_54 : decode Y_X12_joined.2.1 54 = .ok (.iconst 1, 1) := by decide +kernel
theorem dd_X12_joined_55 : decode Y_X12_joined.2.1 55 = .ok (.goto 4, 3) := by decide +kernel
theorem dd_X12_joined_58 : decode Y_X12_joined.2.1 58 = .ok (.iconst 0, 1) := by decide +kernel
theorem dd_X12_joined_59 : decode Y_X12_joined.2.1 59 = .ok (.iconst 1, 1) := by decide +kernel
theorem dd_X12_joined_60 : decode Y_X12_joined.2.1 60 = .ok (.invokevirtual 312, 3) := by decide +kernel
theorem dd_X12_joined_63 : decode Y_X12_joined.2.1 63 = .ok (.ifCond .ne 5, 3) := by decide +kernel
theorem dd_X12_joined_66 : decode Y_X12_joined.2.1 66 = .ok (.iconst 0, 1) := by decide +kernel
theorem dd_X12_joined_67 : decode Y_X12_joined.2.1 67 = .ok (.ireturn, 1) := by decide +kernel
theorem dd_X12_joined_68 : decode Y_X12_joined.2.1 68 = .ok (.iload_n 3, 1) := by decide +kernel
theorem dd_X12_joined_69 : decode Y_X12_joined.2.1 69 = .ok (.iconst (-1), 1) := by decide +kernel
theorem dd_X12_joined_70 : decode Y_X12_joined.2.1 70 = .ok (.if_icmp .ne 6, 3) := by decide +kernel
theorem dd_X12_joined_73 : decode Y_X12_joined.2.1 73 = .ok (.iload 5, 2) := by decide +kernel
theorem dd_X12_joined_75 : decode Y_X12_joined.2.1 75 = .ok (.ireturn, 1) := by decide +kernel
theorem dd_X12_joined_76 : decode Y_X12_joined.2.1 76 = .ok (.iload_n 3, 1) := by decide +kernel
theorem dd_X12_joined_77 : decode Y_X12_joined.2.1 77 = .ok (.aload_n 0, 1) := by decide +kernel
theorem dd_X12_joined_78 : decode Y_X12_joined.2.1 78 = .ok (.getfield 20, 3) := by decide +kernel
theorem dd_X12_joined_81 : decode Y_X12_joined.2.1 81 = .ok (.iload_n 1, 1) := by decide +kernel
theorem dd_X12_joined_82 : decode Y_X12_joined.2.1 82 = .ok (.iaload, 1) := by decide +kernel
theorem dd_X12_joined_83 : decode Y_X12_joined.2.1 83 = .ok (.if_icmp .ge 17, 3) := by decide +kernel
theorem dd_X12_joined_86 : decode Y_X12_joined.2.1 86 = .ok (.aload_n 0, 1) := by decide +kernel
theorem dd_X12_joined_87 : decode Y_X12_joined.2.1 87 = .ok (.getfield 16, 3) := by decide +kernel
theorem dd_X12_joined_90 : decode Y_X12_joined.2.1 90 = .ok (.bipush 9, 2) := by decide +kernel
theorem dd_X12_joined_92 : decode Y_X12_joined.2.1 92 = .ok (.iload_n 1, 1) := by decide +kernel
theorem dd_X12_joined_93 : decode Y_X12_joined.2.1 93 = .ok (.imul, 1) := by decide +kernel
theorem dd_X12_joined_94 : decode Y_X12_joined.2.1 94 = .ok (.iload_n 3, 1) := by decide +kernel
theorem dd_X12_joined_95 : decode Y_X12_joined.2.1 95 = .ok (.iadd, 1) := by decide +kernel
theorem dd_X12_joined_96 : decode Y_X12_joined.2.1 96 = .ok (.iaload, 1) := by decide +kernel
theorem dd_X12_joined_97 : decode Y_X12_joined.2.1 97 = .ok (.goto 24, 3) := by decide +kernel
theorem dd_X12_joined_100 : decode Y_X12_joined.2.1 100 = .ok (.aload_n 0, 1) := by decide +kernel
theorem dd_X12_joined_101 : decode Y_X12_joined.2.1 101 = .ok (.getfield 16, 3) := by decide +kernel
theorem dd_X12_joined_104 : decode Y_X12_joined.2.1 104 = .ok (.bipush 9, 2) := by decide +kernel
theorem dd_X12_joined_106 : decode Y_X12_joined.2.1 106 = .ok (.iload_n 2, 1) := by decide +kernel
theorem dd_X12_joined_107 : decode Y_X12_joined.2.1 107 = .ok (.imul, 1) := by decide +kernel
theorem dd_X12_joined_108 : decode Y_X12_joined.2.1 108 = .ok (.iload_n 3, 1) := by decide +kernel
theorem dd_X12_joined_109 : decode Y_X12_joined.2.1 109 = .ok (.iadd, 1) := by decide +kernel
theorem dd_X12_joined_110 : decode Y_X12_joined.2.1 110 = .ok (.aload_n 0, 1) := by decide +kernel
theorem dd_X12_joined_111 : decode Y_X12_joined.2.1 111 = .ok (.getfield 20, 3) := by decide +kernel
theorem dd_X12_joined_114 : decode Y_X12_joined.2.1 114 = .ok (.iload_n 1, 1) := by decide +kernel
theorem dd_X12_joined_115 : decode Y_X12_joined.2.1 115 = .ok (.iaload, 1) := by decide +kernel
theorem dd_X12_joined_116 : decode Y_X12_joined.2.1 116 = .ok (.isub, 1) := by decide +kernel
theorem dd_X12_joined_117 : decode Y_X12_joined.2.1 117 = .ok (.iload 4, 2) := by decide +kernel
theorem dd_X12_joined_119 : decode Y_X12_joined.2.1 119 = .ok (.iadd, 1) := by decide +kernel
theorem dd_X12_joined_120 : decode Y_X12_joined.2.1 120 = .ok (.iaload, 1) := by decide +kernel
theorem dd_X12_joined_121 : decode Y_X12_joined.2.1 121 = .ok (.ireturn, 1) := by decide +kernel
def F_X12_joined (t : Nat) (a1 : Int32) (a2 : Int32) (a3 : Int32) (M : zM) : zO := zst (zup M t 0 0) (fun M1 => zbI (F_X12_areTwo t a1 a2 M1) (fun r1 M2 => zit (r1 = 0) (zI 0 M2) (zbI (F_X12_common t a1 a2 M2) (fun r2 M3 => zck (zin a1 8) (zck (zin a2 8) (zlt (((M3 (zgr t 6) (zix a1)) + (M3 (zgr t 6) (zix a2))) - r2) (fun v1 => zjo (fun (w1 : Int32) (M5 : zM) => zbI (F_X12_right t w1 1 M5) (fun r3 M6 => zit (r3 = 0) (zI 0 M6) (zit (a3 = (-1)) (zI v1 M6) (zck (zin a1 8) (zjo (fun (w2 : Int32) (M7 : zM) => zI w2 M7) (fun (k3 : Int32 → zM → zO) => zit ((M6 (zgr t 6) (zix a1)) ≤ a3) (zck (zin a1 8) (zck (zin ((((9 * a2) + a3) - (M6 (zgr t 6) (zix a1))) + r2) 72) (k3 (M6 (zgr t 5) (zix ((((9 * a2) + a3) - (M6 (zgr t 6) (zix a1))) + r2))) M6))) (zck (zin ((9 * a1) + a3) 72) (k3 (M6 (zgr t 5) (zix ((9 * a1) + a3))) M6)))))))) (fun (k1 : Int32 → zM → zO) => zjo (fun  (M4 : zM) => k1 0 M4) (fun (k2 : zM → zO) => zit (a3 < (-1)) (k2 M3) (zit (v1 ≤ a3) (k2 M3) (k1 1 M3)))))))))))
set_option maxHeartbeats 1000000 in
set_option maxRecDepth 20000 in
theorem ct_X12_joined (l : Launch) (hl : l.stackTraces = false) (G : zG) (t : Nat) (ht : zsh t = 12) (a1 : Int32) (a2 : Int32) (a3 : Int32) (M : zM) : zMt l G Y_X12_joined 4 [.ref (G.2.1 + t), .int a1, .int a2, .int a3] M (F_X12_joined t a1 a2 a3 M) := by
  refine zMt_of (by decide +kernel) (Nat.le_of_ble_eq_true rfl) ?_
  show zEv l G Y_X12_joined 4 0 0 [(0, .ref (G.2.1 + t)), (1, .int a1), (2, .int a2), (3, .int a3)] [] M (zst (zup M t 0 0) (fun M1 => zbI (F_X12_areTwo t a1 a2 M1) (fun r1 M2 => zit (r1 = 0) (zI 0 M2) (zbI (F_X12_common t a1 a2 M2) (fun r2 M3 => zck (zin a1 8) (zck (zin a2 8) (zlt (((M3 (zgr t 6) (zix a1)) + (M3 (zgr t 6) (zix a2))) - r2) (fun v1 => zjo (fun (w1 : Int32) (M5 : zM) => zbI (F_X12_right t w1 1 M5) (fun r3 M6 => zit (r3 = 0) (zI 0 M6) (zit (a3 = (-1)) (zI v1 M6) (zck (zin a1 8) (zjo (fun (w2 : Int32) (M7 : zM) => zI w2 M7) (fun (k3 : Int32 → zM → zO) => zit ((M6 (zgr t 6) (zix a1)) ≤ a3) (zck (zin a1 8) (zck (zin ((((9 * a2) + a3) - (M6 (zgr t 6) (zix a1))) + r2) 72) (k3 (M6 (zgr t 5) (zix ((((9 * a2) + a3) - (M6 (zgr t 6) (zix a1))) + r2))) M6))) (zck (zin ((9 * a1) + a3) 72) (k3 (M6 (zgr t 5) (zix ((9 * a1) + a3))) M6)))))))) (fun (k1 : Int32 → zM → zO) => zjo (fun  (M4 : zM) => k1 0 M4) (fun (k2 : zM → zO) => zit (a3 < (-1)) (k2 M3) (zit (v1 ≤ a3) (k2 M3) (k1 1 M3))))))))))))
  refine ev_aload_n dd_X12_joined_0 0 rfl ?_
  refine ev_iconst (v := 0) dd_X12_joined_1 (by decide) ?_
  refine ev_putI gw_RX12_153 dd_X12_joined_2 ht (by decide) ?_
  refine ev_st (fun M1 => ?_)
  refine ev_aload_n dd_X12_joined_5 0 rfl ?_
  refine ev_iload_n dd_X12_joined_6 1 rfl ?_
  refine ev_iload_n dd_X12_joined_7 2 rfl ?_
  refine ev_callVI (As := [.int a1, .int a2]) cl_RX12_357 (ct_X12_areTwo l hl G t ht a1 a2 M1) dd_X12_joined_8 ht (by decide) (Nat.le_of_ble_eq_true rfl) (Nat.le_of_ble_eq_true rfl) rfl rfl (fun r1 M2 => ?_)
  refine ev_if_ne 16 dd_X12_joined_11 (by decide) ?_ ?_
  · refine ev_aload_n dd_X12_joined_16 0 rfl ?_
    refine ev_iload_n dd_X12_joined_17 1 rfl ?_
    refine ev_iload_n dd_X12_joined_18 2 rfl ?_
    refine ev_callVI (As := [.int a1, .int a2]) cl_RX12_428 (ct_X12_common l hl G t ht a1 a2 M2) dd_X12_joined_19 ht (by decide) (Nat.le_of_ble_eq_true rfl) (Nat.le_of_ble_eq_true rfl) rfl rfl (fun r2 M3 => ?_)
    refine ev_istore (i := 4) (lv' := [(0, .ref (G.2.1 + t)), (1, .int a1), (2, .int a2), (3, .int a3), (4, .int r2)]) [1, 2, 3, 4, 0] dd_X12_joined_22 (by decide) rfl ?_
    refine ev_aload_n dd_X12_joined_24 0 rfl ?_
    refine ev_getR gf_RX12_20 dd_X12_joined_25 ht (by decide) ?_
    refine ev_iload_n dd_X12_joined_28 1 rfl ?_
    refine ev_iald dd_X12_joined_29 ((zg_12_6 ht).1) ((zg_12_6 ht).2) ?_
    refine ev_aload_n dd_X12_joined_30 0 rfl ?_
    refine ev_getR gf_RX12_20 dd_X12_joined_31 ht (by decide) ?_
    refine ev_iload_n dd_X12_joined_34 2 rfl ?_
    refine ev_iald dd_X12_joined_35 ((zg_12_6 ht).1) ((zg_12_6 ht).2) ?_
    refine ev_iadd dd_X12_joined_36 ?_
    refine ev_iload dd_X12_joined_37 4 rfl ?_
    refine ev_isub dd_X12_joined_39 ?_
    refine ev_topi (fun v1 => ?_)
    refine ev_istore (i := 5) (lv' := [(0, .ref (G.2.1 + t)), (1, .int a1), (2, .int a2), (3, .int a3), (4, .int r2), (5, .int v1)]) [1, 2, 3, 4, 5, 0] dd_X12_joined_40 (by decide) rfl ?_
    refine ev_aload_n dd_X12_joined_42 0 rfl ?_
    refine ev_iload_n dd_X12_joined_43 3 rfl ?_
    refine ev_iconst (v := (-1)) dd_X12_joined_44 (by decide) ?_
    refine ev_jo (fun (k1 : Int32 → zM → zO) => ∀ (w1 : Int32) (M5 : zM), zEv l G Y_X12_joined 4 0 59 [(0, .ref (G.2.1 + t)), (1, .int a1), (2, .int a2), (3, .int a3), (4, .int r2), (5, .int v1)] [.int w1, .ref (G.2.1 + t)] M5 (k1 w1 M5)) ?_ (fun k1 hk1 => ?_)
    · intro w1 M5
      refine ev_iconst (v := 1) dd_X12_joined_59 (by decide) ?_
      refine ev_callVI (As := [.int w1, .int 1]) cl_RX12_312 (ct_X12_right l hl G t ht w1 1 M5) dd_X12_joined_60 ht (by decide) (Nat.le_of_ble_eq_true rfl) (Nat.le_of_ble_eq_true rfl) rfl rfl (fun r3 M6 => ?_)
      refine ev_if_ne 68 dd_X12_joined_63 (by decide) ?_ ?_
      · refine ev_iload_n dd_X12_joined_68 3 rfl ?_
        refine ev_iconst (v := (-1)) dd_X12_joined_69 (by decide) ?_
        refine ev_icmp_ne 76 dd_X12_joined_70 (by decide) ?_ ?_
        · refine ev_lv (lv' := [(0, .ref (G.2.1 + t)), (1, .int a1), (2, .int a2), (3, .int a3), (4, .int r2)]) [0, 1, 2, 3, 4] rfl ?_
          refine ev_iload_n dd_X12_joined_76 3 rfl ?_
          refine ev_aload_n dd_X12_joined_77 0 rfl ?_
          refine ev_getR gf_RX12_20 dd_X12_joined_78 ht (by decide) ?_
          refine ev_iload_n dd_X12_joined_81 1 rfl ?_
          refine ev_iald dd_X12_joined_82 ((zg_12_6 ht).1) ((zg_12_6 ht).2) ?_
          refine ev_jo (fun (k3 : Int32 → zM → zO) => ∀ (w2 : Int32) (M7 : zM), zEv l G Y_X12_joined 4 0 121 [] [.int w2] M7 (k3 w2 M7)) ?_ (fun k3 hk3 => ?_)
          · intro w2 M7
            exact ev_iret dd_X12_joined_121 rfl (Nat.le_of_ble_eq_true rfl) rfl
          · refine ev_icmp_ge 100 dd_X12_joined_83 (by decide) ?_ ?_
            · refine ev_aload_n dd_X12_joined_100 0 rfl ?_
              refine ev_getR gf_RX12_16 dd_X12_joined_101 ht (by decide) ?_
              refine ev_bipush (v := 9) dd_X12_joined_104 (by decide) ?_
              refine ev_iload_n dd_X12_joined_106 2 rfl ?_
              refine ev_lv (lv' := [(0, .ref (G.2.1 + t)), (1, .int a1), (3, .int a3), (4, .int r2)]) [0, 1, 3, 4] rfl ?_
              refine ev_imul dd_X12_joined_107 ?_
              refine ev_iload_n dd_X12_joined_108 2 rfl ?_
              refine ev_lv (lv' := [(0, .ref (G.2.1 + t)), (1, .int a1), (4, .int r2)]) [0, 1, 3] rfl ?_
              refine ev_iadd dd_X12_joined_109 ?_
              refine ev_aload_n dd_X12_joined_110 0 rfl ?_
              refine ev_lv (lv' := [(1, .int a1), (4, .int r2)]) [1, 2] rfl ?_
              refine ev_getR gf_RX12_20 dd_X12_joined_111 ht (by decide) ?_
              refine ev_iload_n dd_X12_joined_114 0 rfl ?_
              refine ev_lv (lv' := [(4, .int r2)]) [1] rfl ?_
              refine ev_iald dd_X12_joined_115 ((zg_12_6 ht).1) ((zg_12_6 ht).2) ?_
              refine ev_isub dd_X12_joined_116 ?_
              refine ev_iload dd_X12_joined_117 0 rfl ?_
              refine ev_lv (lv' := []) [] rfl ?_
              refine ev_iadd dd_X12_joined_119 ?_
              refine ev_iald dd_X12_joined_120 ((zg_12_5 ht).1) ((zg_12_5 ht).2) ?_
              exact hk3 _ _
            · refine ev_lv (lv' := [(0, .ref (G.2.1 + t)), (1, .int a1), (3, .int a3)]) [0, 1, 3] rfl ?_
              refine ev_aload_n dd_X12_joined_86 0 rfl ?_
              refine ev_lv (lv' := [(1, .int a1), (3, .int a3)]) [1, 2] rfl ?_
              refine ev_getR gf_RX12_16 dd_X12_joined_87 ht (by decide) ?_
              refine ev_bipush (v := 9) dd_X12_joined_90 (by decide) ?_
              refine ev_iload_n dd_X12_joined_92 0 rfl ?_
              refine ev_lv (lv' := [(3, .int a3)]) [1] rfl ?_
              refine ev_imul dd_X12_joined_93 ?_
              refine ev_iload_n dd_X12_joined_94 0 rfl ?_
              refine ev_lv (lv' := []) [] rfl ?_
              refine ev_iadd dd_X12_joined_95 ?_
              refine ev_iald dd_X12_joined_96 ((zg_12_5 ht).1) ((zg_12_5 ht).2) ?_
              refine ev_goto 121 dd_X12_joined_97 (by decide) ?_
              exact hk3 _ _
        · refine ev_lv (lv' := [(5, .int v1)]) [5] rfl ?_
          refine ev_iload dd_X12_joined_73 0 rfl ?_
          refine ev_lv (lv' := []) [] rfl ?_
          exact ev_iret dd_X12_joined_75 rfl (Nat.le_of_ble_eq_true rfl) rfl
      · refine ev_lv (lv' := []) [] rfl ?_
        refine ev_iconst (v := 0) dd_X12_joined_66 (by decide) ?_
        exact ev_iret dd_X12_joined_67 rfl (Nat.le_of_ble_eq_true rfl) rfl
    · refine ev_jo (fun (k2 : zM → zO) => ∀  (M4 : zM), zEv l G Y_X12_joined 4 0 58 [(0, .ref (G.2.1 + t)), (1, .int a1), (2, .int a2), (3, .int a3), (4, .int r2), (5, .int v1)] [.ref (G.2.1 + t)] M4 (k2 M4)) ?_ (fun k2 hk2 => ?_)
      · intro M4
        refine ev_iconst (v := 0) dd_X12_joined_58 (by decide) ?_
        exact hk1 _ _
      · refine ev_icmp_lt 58 dd_X12_joined_45 (by decide) ?_ ?_
        · exact hk2 _
        · refine ev_iload_n dd_X12_joined_48 3 rfl ?_
          refine ev_iload dd_X12_joined_49 5 rfl ?_
          refine ev_icmp_ge 58 dd_X12_joined_51 (by decide) ?_ ?_
          · exact hk2 _
          · refine ev_iconst (v := 1) dd_X12_joined_54 (by decide) ?_
            refine ev_goto 59 dd_X12_joined_55 (by decide) ?_
            exact hk1 _ _
  · refine ev_lv (lv' := []) [] rfl ?_
    refine ev_iconst (v := 0) dd_X12_joined_14 (by decide) ?_
    exact ev_iret dd_X12_joined_15 rfl (Nat.le_of_ble_eq_true rfl) rfl
/-! X12_leave -/
theorem dd_X12_leave_0 : decode Y_X12_leave.2.1 0 = .ok (.aload_n 0, 1) := by decide +kernel
theorem dd_X12_leave_1 : decode Y_X12_leave.2.1 1 = .ok (.iconst 0, 1) := by decide +kernel
theorem dd_X12_leave_2 : decode Y_X12_leave.2.1 2 = .ok (.putfield 153, 3) := by decide +kernel
theorem dd_X12_leave_5 : decode Y_X12_leave.2.1 5 = .ok (.iconst (-1), 1) := by decide +kernel
theorem dd_X12_leave_6 : decode Y_X12_leave.2.1 6 = .ok (.istore_n 1, 1) := by decide +kernel
theorem dd_X12_leave_7 : decode Y_X12_leave.2.1 7 = .ok (.iconst 1, 1) := by decide +kernel
theorem dd_X12_leave_8 : decode Y_X12_leave.2.1 8 = .ok (.istore_n 2, 1) := by decide +kernel
theorem dd_X12_leave_9 : decode Y_X12_leave.2.1 9 = .ok (.iload_n 2, 1) := by decide +kernel
theorem dd_X12_leave_10 : decode Y_X12_leave.2.1 10 = .ok (.iconst 1, 1) := by decide +kernel
theorem dd_X12_leave_11 : decode Y_X12_leave.2.1 11 = .ok (.aload_n 0, 1) := by decide +kernel
theorem dd_X12_leave_12 : decode Y_X12_leave.2.1 12 = .ok (.getfield 319, 3) := by decide +kernel
theorem dd_X12_leave_15 : decode Y_X12_leave.2.1 15 = .ok (.ishl, 1) := by decide +kernel
theorem dd_X12_leave_16 : decode Y_X12_leave.2.1 16 = .ok (.if_icmp .ge 254, 3) := by decide +kernel
theorem dd_X12_leave_19 : decode Y_X12_leave.2.1 19 = .ok (.iconst 0, 1) := by decide +kernel
theorem dd_X12_leave_20 : decode Y_X12_leave.2.1 20 = .ok (.istore_n 3, 1) := by decide +kernel
theorem dd_X12_leave_21 : decode Y_X12_leave.2.1 21 = .ok (.iload_n 2, 1) := by decide +kernel
theorem dd_X12_leave_22 : decode Y_X12_leave.2.1 22 = .ok (.iload_n 3, 1) := by decide +kernel
theorem dd_X12_leave_23 : decode Y_X12_leave.2.1 23 = .ok (.ishr, 1) := by decide +kernel
theorem dd_X12_leave_24 : decode Y_X12_leave.2.1 24 = .ok (.iconst 1, 1) := by decide +kernel
theorem dd_X12_leave_25 : decode Y_X12_leave.2.1 25 = .ok (.iand, 1) := by decide +kernel
theorem dd_X12_leave_26 : decode Y_X12_leave.2.1 26 = .ok (.ifCond .ne 9, 3) := by decide +kernel
theorem dd_X12_leave_29 : decode Y_X12_leave.2.1 29 = .ok (.iinc 3 1, 3) := by decide +kernel
theorem dd_X12_leave_32 : decode Y_X12_leave.2.1 32 = .ok (.goto (-11), 3) := by decide +kernel
theorem dd_X12_leave_35 : decode Y_X12_leave.2.1 35 = .ok (.aload_n 0, 1) := by decide +kernel
theorem dd_X12_leave_36 : decode Y_X12_leave.2.1 36 = .ok (.getfield 105, 3) := by decide +kernel
theorem dd_X12_leave_39 : decode Y_X12_leave.2.1 39 = .ok (.iload_n 2, 1) := by decide +kernel
theorem dd_X12_leave_40 : decode Y_X12_leave.2.1 40 = .ok (.iload_n 2, 1) := by decide +kernel
theorem dd_X12_leave_41 : decode Y_X12_leave.2.1 41 = .ok (.iconst 1, 1) := by decide +kernel
theorem dd_X12_leave_42 : decode Y_X12_leave.2.1 42 = .ok (.iload_n 3, 1) := by decide +kernel
theorem dd_X12_leave_43 : decode Y_X12_leave.2.1 43 = .ok (.ishl, 1) := by decide +kernel
theorem dd_X12_leave_44 : decode Y_X12_leave.2.1 44 = .ok (.if_icmp .ne 7, 3) := by decide +kernel
theorem dd_X12_leave_47 : decode Y_X12_leave.2.1 47 = .ok (.iload_n 2, 1) := by decide +kernel
theorem dd_X12_leave_48 : decode Y_X12_leave.2.1 48 = .ok (.goto 4, 3) := by decide +kernel
theorem dd_X12_leave_51 : decode Y_X12_leave.2.1 51 = .ok (.iconst 0, 1) := by decide +kernel
theorem dd_X12_leave_52 : decode Y_X12_leave.2.1 52 = .ok (.iastore, 1) := by decide +kernel
theorem dd_X12_leave_53 : decode Y_X12_leave.2.1 53 = .ok (.iload_n 3, 1) := by decide +kernel
theorem dd_X12_leave_54 : decode Y_X12_leave.2.1 54 = .ok (.iconst 1, 1) := by decide +kernel
theorem dd_X12_leave_55 : decode Y_X12_leave.2.1 55 = .ok (.iadd, 1) := by decide +kernel
theorem dd_X12_leave_56 : decode Y_X12_leave.2.1 56 = .ok (.istore 4, 2) := by decide +kernel
theorem dd_X12_leave_58 : decode Y_X12_leave.2.1 58 = .ok (.iload 4, 2) := by decide +kernel
theorem dd_X12_leave_60 : decode Y_X12_leave.2.1 60 = .ok (.aload_n 0, 1) := by decide +kernel
theorem dd_X12_leave_61 : decode Y_X12_leave.2.1 61 = .ok (.getfield 319, 3) := by decide +kernel
theorem dd_X12_leave_64 : decode Y_X12_leave.2.1 64 = .ok (.if_icmp .ge 101, 3) := by decide +kernel
theorem dd_X12_leave_67 : decode Y_X12_leave.2.1 67 = .ok (.iload_n 2, 1) := by decide +kernel
theorem dd_X12_leave_68 : decode Y_X12_leave.2.1 68 = .ok (.iload 4, 2) := by decide +kernel
theorem dd_X12_leave_70 : decode Y_X12_leave.2.1 70 = .ok (.ishr, 1) := by decide +kernel
theorem dd_X12_leave_71 : decode Y_X12_leave.2.1 71 = .ok (.iconst 1, 1) := by decide +kernel
theorem dd_X12_leave_72 : decode Y_X12_leave.2.1 72 = .ok (.iand, 1) := by decide +kernel
theorem dd_X12_leave_73 : decode Y_X12_leave.2.1 73 = .ok (.ifCond .ne 6, 3) := by decide +kernel
theorem dd_X12_leave_76 : decode Y_X12_leave.2.1 76 = .ok (.goto 83, 3) := by decide +kernel
theorem dd_X12_leave_79 : decode Y_X12_leave.2.1 79 = .ok (.aload_n 0, 1) := by decide +kernel
theorem dd_X12_leave_80 : decode Y_X12_leave.2.1 80 = .ok (.getfield 105, 3) := by decide +kernel
theorem dd_X12_leave_83 : decode Y_X12_leave.2.1 83 = .ok (.iload_n 2, 1) := by decide +kernel
theorem dd_X12_leave_84 : decode Y_X12_leave.2.1 84 = .ok (.iconst 1, 1) := by decide +kernel
theorem dd_X12_leave_85 : decode Y_X12_leave.2.1 85 = .ok (.iload 4, 2) := by decide +kernel
theorem dd_X12_leave_87 : decode Y_X12_leave.2.1 87 = .ok (.ishl, 1) := by decide +kernel
theorem dd_X12_leave_88 : decode Y_X12_leave.2.1 88 = .ok (.iconst (-1), 1) := by decide +kernel
theorem dd_X12_leave_89 : decode Y_X12_leave.2.1 89 = .ok (.ixor, 1) := by decide +kernel
theorem dd_X12_leave_90 : decode Y_X12_leave.2.1 90 = .ok (.iand, 1) := by decide +kernel
theorem dd_X12_leave_91 : decode Y_X12_leave.2.1 91 = .ok (.iaload, 1) := by decide +kernel
theorem dd_X12_leave_92 : decode Y_X12_leave.2.1 92 = .ok (.istore 5, 2) := by decide +kernel
theorem dd_X12_leave_94 : decode Y_X12_leave.2.1 94 = .ok (.iconst 0, 1) := by decide +kernel
theorem dd_X12_leave_95 : decode Y_X12_leave.2.1 95 = .ok (.istore 6, 2) := by decide +kernel
theorem dd_X12_leave_97 : decode Y_X12_leave.2.1 97 = .ok (.iload 6, 2) := by decide +kernel
theorem dd_X12_leave_99 : decode Y_X12_leave.2.1 99 = .ok (.aload_n 0, 1) := by decide +kernel
theorem dd_X12_leave_100 : decode Y_X12_leave.2.1 100 = .ok (.getfield 319, 3) := by decide +kernel
theorem dd_X12_leave_103 : decode Y_X12_leave.2.1 103 = .ok (.if_icmp .ge 56, 3) := by decide +kernel
theorem dd_X12_leave_106 : decode Y_X12_leave.2.1 106 = .ok (.iload 5, 2) := by decide +kernel
theorem dd_X12_leave_108 : decode Y_X12_leave.2.1 108 = .ok (.iload 6, 2) := by decide +kernel
theorem dd_X12_leave_110 : decode Y_X12_leave.2.1 110 = .ok (.ishr, 1) := by decide +kernel
theorem dd_X12_leave_111 : decode Y_X12_leave.2.1 111 = .ok (.iconst 1, 1) := by decide +kernel
theorem dd_X12_leave_112 : decode Y_X12_leave.2.1 112 = .ok (.iand, 1) := by decide +kernel
theorem dd_X12_leave_113 : decode Y_X12_leave.2.1 113 = .ok (.iconst 1, 1) := by decide +kernel
theorem dd_X12_leave_114 : decode Y_X12_leave.2.1 114 = .ok (.if_icmp .ne 39, 3) := by decide +kernel
theorem dd_X12_leave_117 : decode Y_X12_leave.2.1 117 = .ok (.aload_n 0, 1) := by decide +kernel
theorem dd_X12_leave_118 : decode Y_X12_leave.2.1 118 = .ok (.iload 6, 2) := by decide +kernel
theorem dd_X12_leave_120 : decode Y_X12_leave.2.1 120 = .ok (.aload_n 0, 1) := by decide +kernel
theorem dd_X12_leave_121 : decode Y_X12_leave.2.1 121 = .ok (.getfield 87, 3) := by decide +kernel
theorem dd_X12_leave_124 : decode Y_X12_leave.2.1 124 = .ok (.iload 4, 2) := by decide +kernel
theorem dd_X12_leave_126 : decode Y_X12_leave.2.1 126 = .ok (.iaload, 1) := by decide +kernel
theorem dd_X12_leave_127 : decode Y_X12_leave.2.1 127 = .ok (.aload_n 0, 1) := by decide +kernel
theorem dd_X12_leave_128 : decode Y_X12_leave.2.1 128 = .ok (.getfield 87, 3) := by decide +kernel
theorem dd_X12_leave_131 : decode Y_X12_leave.2.1 131 = .ok (.iload 6, 2) := by decide +kernel
theorem dd_X12_leave_133 : decode Y_X12_leave.2.1 133 = .ok (.iaload, 1) := by decide +kernel
theorem dd_X12_leave_134 : decode Y_X12_leave.2.1 134 = .ok (.invokevirtual 400, 3) := by decide +kernel
theorem dd_X12_leave_137 : decode Y_X12_leave.2.1 137 = .ok (.ifCond .eq 16, 3) := by decide +kernel
theorem dd_X12_leave_140 : decode Y_X12_leave.2.1 140 = .ok (.aload_n 0, 1) := by decide +kernel
theorem dd_X12_leave_141 : decode Y_X12_leave.2.1 141 = .ok (.getfield 105, 3) := by decide +kernel
theorem dd_X12_leave_144 : decode Y_X12_leave.2.1 144 = .ok (.iload_n 2, 1) := by decide +kernel
theorem dd_X12_leave_145 : decode Y_X12_leave.2.1 145 = .ok (.dup2, 1) := by decide +kernel
theorem dd_X12_leave_146 : decode Y_X12_leave.2.1 146 = .ok (.iaload, 1) := by decide +kernel
theorem dd_X12_leave_147 : decode Y_X12_leave.2.1 147 = .ok (.iconst 1, 1) := by decide +kernel
theorem dd_X12_leave_148 : decode Y_X12_leave.2.1 148 = .ok (.iload 4, 2) := by decide +kernel
theorem dd_X12_leave_150 : decode Y_X12_leave.2.1 150 = .ok (.ishl, 1) := by decide +kernel
theorem dd_X12_leave_151 : decode Y_X12_leave.2.1 151 = .ok (.ior, 1) := by decide +kernel
theorem dd_X12_leave_152 : decode Y_X12_leave.2.1 152 = .ok (.iastore, 1) := by decide +kernel
theorem dd_X12_leave_153 : decode Y_X12_leave.2.1 153 = .ok (.iinc 6 1, 3) := by decide +kernel
theorem dd_X12_leave_156 : decode Y_X12_leave.2.1 156 = .ok (.goto (-59), 3) := by decide +kernel
theorem dd_X12_leave_159 : decode Y_X12_leave.2.1 159 = .ok (.iinc 4 1, 3) := by decide +kernel
theorem dd_X12_leave_162 : decode Y_X12_leave.2.1 162 = .ok (.goto (-104), 3) := by decide +kernel
theorem dd_X12_leave_165 : decode Y_X12_leave.2.1 165 = .ok (.iconst 0, 1) := by decide +kernel
theorem dd_X12_leave_166 : decode Y_X12_leave.2.1 166 = .ok (.istore 4, 2) := by decide +kernel
theorem dd_X12_leave_168 : decode Y_X12_leave.2.1 168 = .ok (.iconst 0, 1) := by decide +kernel
theorem dd_X12_leave_169 : decode Y_X12_leave.2.1 169 = .ok (.istore 5, 2) := by decide +kernel
theorem dd_X12_leave_171 : decode Y_X12_leave.2.1 171 = .ok (.iload 5, 2) := by decide +kernel
theorem dd_X12_leave_173 : decode Y_X12_leave.2.1 173 = .ok (.aload_n 0, 1) := by decide +kernel
theorem dd_X12_leave_174 : decode Y_X12_leave.2.1 174 = .ok (.getfield 319, 3) := by decide +kernel
theorem dd_X12_leave_177 : decode Y_X12_leave.2.1 177 = .ok (.if_icmp .ge 64, 3) := by decide +kernel
theorem dd_X12_leave_180 : decode Y_X12_leave.2.1 180 = .ok (.iload 4, 2) := by decide +kernel
theorem dd_X12_leave_182 : decode Y_X12_leave.2.1 182 = .ok (.ifCond .ne 46, 3) := by decide +kernel
theorem dd_X12_leave_185 : decode Y_X12_leave.2.1 185 = .ok (.iload 5, 2) := by decide +kernel
theorem dd_X12_leave_187 : decode Y_X12_leave.2.1 187 = .ok (.iload_n 3, 1) := by decide +kernel
theorem dd_X12_leave_188 : decode Y_X12_leave.2.1 188 = .ok (.if_icmp .eq 44, 3) := by decide +kernel
theorem dd_X12_leave_191 : decode Y_X12_leave.2.1 191 = .ok (.aload_n 0, 1) := by decide +kernel
theorem dd_X12_leave_192 : decode Y_X12_leave.2.1 192 = .ok (.getfield 105, 3) := by decide +kernel
theorem dd_X12_leave_195 : decode Y_X12_leave.2.1 195 = .ok (.iload_n 2, 1) := by decide +kernel
theorem dd_X12_leave_196 : decode Y_X12_leave.2.1 196 = .ok (.iaload, 1) := by decide +kernel
theorem dd_X12_leave_197 : decode Y_X12_leave.2.1 197 = .ok (.iload 5, 2) := by decide +kernel
theorem dd_X12_leave_199 : decode Y_X12_leave.2.1 199 = .ok (.ishr, 1) := by decide +kernel
theorem dd_X12_leave_200 : decode Y_X12_leave.2.1 200 = .ok (.iconst 1, 1) := by decide +kernel
theorem dd_X12_leave_201 : decode Y_X12_leave.2.1 201 = .ok (.iand, 1) := by decide +kernel
theorem dd_X12_leave_202 : decode Y_X12_leave.2.1 202 = .ok (.iconst 1, 1) := by decide +kernel
theorem dd_X12_leave_203 : decode Y_X12_leave.2.1 203 = .ok (.if_icmp .ne 29, 3) := by decide +kernel
theorem dd_X12_leave_206 : decode Y_X12_leave.2.1 206 = .ok (.aload_n 0, 1) := by decide +kernel
theorem dd_X12_leave_207 : decode Y_X12_leave.2.1 207 = .ok (.iload 5, 2) := by decide +kernel
theorem dd_X12_leave_209 : decode Y_X12_leave.2.1 209 = .ok (.aload_n 0, 1) := by decide +kernel
theorem dd_X12_leave_210 : decode Y_X12_leave.2.1 210 = .ok (.getfield 87, 3) := by decide +kernel
theorem dd_X12_leave_213 : decode Y_X12_leave.2.1 213 = .ok (.iload_n 3, 1) := by decide +kernel
theorem dd_X12_leave_214 : decode Y_X12_leave.2.1 214 = .ok (.iaload, 1) := by decide +kernel
theorem dd_X12_leave_215 : decode Y_X12_leave.2.1 215 = .ok (.aload_n 0, 1) := by decide +kernel
theorem dd_X12_leave_216 : decode Y_X12_leave.2.1 216 = .ok (.getfield 87, 3) := by decide +kernel
theorem dd_X12_leave_219 : decode Y_X12_leave.2.1 219 = .ok (.iload 5, 2) := by decide +kernel
theorem dd_X12_leave_221 : decode Y_X12_leave.2.1 221 = .ok (.iaload, 1) := by decide +kernel
theorem dd_X12_leave_222 : decode Y_X12_leave.2.1 222 = .ok (.invokevirtual 400, 3) := by decide +kernel
theorem dd_X12_leave_225 : decode Y_X12_leave.2.1 225 = .ok (.ifCond .eq 7, 3) := by decide +kernel
theorem dd_X12_leave_228 : decode Y_X12_leave.2.1 228 = .ok (.iconst 1, 1) := by decide +kernel
theorem dd_X12_leave_229 : decode Y_X12_leave.2.1 229 = .ok (.goto 4, 3) := by decide +kernel
theorem dd_X12_leave_232 : decode Y_X12_leave.2.1 232 = .ok (.iconst 0, 1) := by decide +kernel
theorem dd_X12_leave_233 : decode Y_X12_leave.2.1 233 = .ok (.istore 4, 2) := by decide +kernel
theorem dd_X12_leave_235 : decode Y_X12_leave.2.1 235 = .ok (.iinc 5 1, 3) := by decide +kernel
theorem dd_X12_leave_238 : decode Y_X12_leave.2.1 238 = .ok (.goto (-67), 3) := by decide +kernel
theorem dd_X12_leave_241 : decode Y_X12_leave.2.1 241 = .ok (.iload 4, 2) := by decide +kernel
theorem dd_X12_leave_243 : decode Y_X12_leave.2.1 243 = .ok (.ifCond .eq 21, 3) := by decide +kernel
theorem dd_X12_leave_246 : decode Y_X12_leave.2.1 246 = .ok (.iload_n 1, 1) := by decide +kernel
theorem dd_X12_leave_247 : decode Y_X12_leave.2.1 247 = .ok (.iconst (-1), 1) := by decide +kernel
theorem dd_X12_leave_248 : decode Y_X12_leave.2.1 248 = .ok (.if_icmp .eq 14, 3) := by decide +kernel
theorem dd_X12_leave_251 : decode Y_X12_leave.2.1 251 = .ok (.iload_n 2, 1) := by decide +kernel
theorem dd_X12_leave_252 : decode Y_X12_leave.2.1 252 = .ok (.invokestatic 406, 3) := by decide +kernel
theorem dd_X12_leave_255 : decode Y_X12_leave.2.1 255 = .ok (.iload_n 1, 1) := by decide +kernel
theorem dd_X12_leave_256 : decode Y_X12_leave.2.1 256 = .ok (.invokestatic 406, 3) := by decide +kernel
theorem dd_X12_leave_259 : decode Y_X12_leave.2.1 259 = .ok (.if_icmp .ge 5, 3) := by decide +kernel
theorem dd_X12_leave_262 : decode Y_X12_leave.2.1 262 = .ok (.iload_n 2, 1) := by decide +kernel
theorem dd_X12_leave_263 : decode Y_X12_leave.2.1 263 = .ok (.istore_n 1, 1) := by decide +kernel
theorem dd_X12_leave_264 : decode Y_X12_leave.2.1 264 = .ok (.iinc 2 1, 3) := by decide +kernel
theorem dd_X12_leave_267 : decode Y_X12_leave.2.1 267 = .ok (.goto (-258), 3) := by decide +kernel
theorem dd_X12_leave_270 : decode Y_X12_leave.2.1 270 = .ok (.iload_n 1, 1) := by decide +kernel
theorem dd_X12_leave_271 : decode Y_X12_leave.2.1 271 = .ok (.ireturn, 1) := by decide +kernel
def F_X12_leave_L21 (x0 : Nat) (x1 : Int32) (x2 : Int32) (K35 : Int32 → zM → zO) : Nat → Int32 → zM → zO
  | 0, _, _ => none
  | n + 1, x3, M => zit (((x2 >>> (x3 &&& 31)) &&& 1) = 0) (F_X12_leave_L21 x0 x1 x2 K35 n (x3 + 1) M) (K35 x3 M)
def F_X12_leave_L97 (x0 : Nat) (x1 : Int32) (x2 : Int32) (x3 : Int32) (x4 : Int32) (x5 : Int32) (K159 : zM → zO) : Nat → Int32 → zM → zO
  | 0, _, _ => none
  | n + 1, x6, M => zit ((M x0 1) ≤ x6) (K159 M) (zjo (fun  (M7 : zM) => F_X12_leave_L97 x0 x1 x2 x3 x4 x5 K159 n (x6 + 1) M7) (fun (k3 : zM → zO) => zit (((x5 >>> (x6 &&& 31)) &&& 1) = 1) (zck (zin x4 73) (zck (zin x6 73) (zbI (F_X12_likes x0 x6 (M (zgr x0 47) (zix x4)) (M (zgr x0 47) (zix x6)) M) (fun r1 M5 => zit (r1 = 0) (k3 M5) (zck (zin x2 256) (zck (zin x2 256) (zst (zup M5 (zgr x0 54) (zix x2) ((M5 (zgr x0 54) (zix x2)) ||| ((1 : Int32) <<< (x4 &&& 31)))) (fun M6 => k3 M6)))))))) (k3 M)))
def F_X12_leave_L58 (x0 : Nat) (x1 : Int32) (x2 : Int32) (x3 : Int32) (K165 : zM → zO) : Nat → Int32 → zM → zO
  | 0, _, _ => none
  | n + 1, x4, M => zit ((M x0 1) ≤ x4) (K165 M) (zjo (fun  (M9 : zM) => F_X12_leave_L58 x0 x1 x2 x3 K165 n (x4 + 1) M9) (fun (k2 : zM → zO) => zit (((x2 >>> (x4 &&& 31)) &&& 1) = 0) (k2 M) (zck (zin (x2 &&& (((1 : Int32) <<< (x4 &&& 31)) ^^^ (-1))) 256) (zlt (M (zgr x0 54) (zix (x2 &&& (((1 : Int32) <<< (x4 &&& 31)) ^^^ (-1))))) (fun v2 => F_X12_leave_L97 x0 x1 x2 x3 x4 v2 (fun  (M8 : zM) => k2 M8) zN 0 M)))))
def F_X12_leave_L171 (x0 : Nat) (x1 : Int32) (x2 : Int32) (x3 : Int32) (K241 : Int32 → zM → zO) : Nat → Int32 → Int32 → zM → zO
  | 0, _, _, _ => none
  | n + 1, x4, x5, M => zit ((M x0 1) ≤ x5) (K241 x4 M) (zjo (fun (w2 : Int32) (M14 : zM) => F_X12_leave_L171 x0 x1 x2 x3 K241 n w2 (x5 + 1) M14) (fun (k4 : Int32 → zM → zO) => zjo (fun  (M13 : zM) => k4 1 M13) (fun (k5 : zM → zO) => zit (x4 = 0) (zjo (fun  (M12 : zM) => k4 0 M12) (fun (k6 : zM → zO) => zit (x5 = x3) (k6 M) (zck (zin x2 256) (zit ((((M (zgr x0 54) (zix x2)) >>> (x5 &&& 31)) &&& 1) = 1) (zck (zin x3 73) (zck (zin x5 73) (zbI (F_X12_likes x0 x5 (M (zgr x0 47) (zix x3)) (M (zgr x0 47) (zix x5)) M) (fun r2 M11 => zit (r2 = 0) (k6 M11) (k5 M11))))) (k6 M))))) (k5 M))))
def F_X12_leave_L9 (x0 : Nat) (K270 : Int32 → zM → zO) : Nat → Int32 → Int32 → zM → zO
  | 0, _, _, _ => none
  | n + 1, x1, x2, M => zit (((1 : Int32) <<< ((M x0 1) &&& 31)) ≤ x2) (K270 x1 M) (F_X12_leave_L21 x0 x1 x2 (fun (y1 : Int32) (M2 : zM) => zjo (fun (w1 : Int32) (M3 : zM) => zck (zin x2 256) (zst (zup M3 (zgr x0 54) (zix x2) w1) (fun M4 => zlt (y1 + 1) (fun v1 => F_X12_leave_L58 x0 x1 x2 y1 (fun  (M10 : zM) => F_X12_leave_L171 x0 x1 x2 y1 (fun (y2 : Int32) (M15 : zM) => zjo (fun (w3 : Int32) (M19 : zM) => F_X12_leave_L9 x0 K270 n w3 (x2 + 1) M19) (fun (k7 : Int32 → zM → zO) => zit (y2 = 0) (k7 x1 M15) (zjo (fun  (M18 : zM) => k7 x2 M18) (fun (k8 : zM → zO) => zit (x1 = (-1)) (k8 M15) (zbI (F_X12_bits x2 M15) (fun r3 M16 => zbI (F_X12_bits x1 M16) (fun r4 M17 => zit (r4 ≤ r3) (k7 x1 M17) (k8 M17)))))))) zN 0 0 M10) zN v1 M4)))) (fun (k1 : Int32 → zM → zO) => zit (x2 = ((1 : Int32) <<< (y1 &&& 31))) (k1 x2 M2) (k1 0 M2))) zN 0 M)
def F_X12_leave (t : Nat) (M : zM) : zO := zst (zup M t 0 0) (fun M1 => F_X12_leave_L9 t (fun (y3 : Int32) (M20 : zM) => zI y3 M20) zN (-1) 1 M1)
set_option maxHeartbeats 1000000 in
set_option maxRecDepth 20000 in
theorem ct_X12_leave_L21 (l : Launch) (hl : l.stackTraces = false) (G : zG) (x0 : Nat) (hx0 : zsh x0 = 12) (x1 : Int32) (x2 : Int32) (K35 : Int32 → zM → zO) (hK35 : ∀ (x3 : Int32) (M : zM), zEv l G Y_X12_leave 3 0 35 [(0, .ref (G.2.1 + x0)), (1, .int x1), (2, .int x2), (3, .int x3)] [] M (K35 x3 M)) : ∀ (n : Nat) (x3 : Int32) (M : zM), zEv l G Y_X12_leave 3 0 21 [(0, .ref (G.2.1 + x0)), (1, .int x1), (2, .int x2), (3, .int x3)] [] M (F_X12_leave_L21 x0 x1 x2 K35 n x3 M) := by
  intro n
  induction n with
  | zero => intro x3 M; exact ev_none
  | succ n ih =>
    intro x3 M
    show zEv l G Y_X12_leave 3 0 21 [(0, .ref (G.2.1 + x0)), (1, .int x1), (2, .int x2), (3, .int x3)] [] M (zit (((x2 >>> (x3 &&& 31)) &&& 1) = 0) (F_X12_leave_L21 x0 x1 x2 K35 n (x3 + 1) M) (K35 x3 M))
    refine ev_iload_n dd_X12_leave_21 2 rfl ?_
    refine ev_iload_n dd_X12_leave_22 3 rfl ?_
    refine ev_ishr dd_X12_leave_23 ?_
    refine ev_iconst (v := 1) dd_X12_leave_24 (by decide) ?_
    refine ev_iand dd_X12_leave_25 ?_
    refine ev_if_ne 35 dd_X12_leave_26 (by decide) ?_ ?_
    · exact hK35 _ _
    · refine ev_iinc (j := 3) (v := 1) (lv' := [(0, .ref (G.2.1 + x0)), (1, .int x1), (2, .int x2), (3, .int (x3 + 1))]) [1, 2, 3, 0] dd_X12_leave_29 rfl (by decide) (by decide) rfl ?_
      refine ev_goto 21 dd_X12_leave_32 (by decide) ?_
      exact ih _ _
set_option maxHeartbeats 1000000 in
set_option maxRecDepth 20000 in
theorem ct_X12_leave_L97 (l : Launch) (hl : l.stackTraces = false) (G : zG) (x0 : Nat) (hx0 : zsh x0 = 12) (x1 : Int32) (x2 : Int32) (x3 : Int32) (x4 : Int32) (x5 : Int32) (K159 : zM → zO) (hK159 : ∀  (M : zM), zEv l G Y_X12_leave 3 0 159 [(0, .ref (G.2.1 + x0)), (1, .int x1), (2, .int x2), (3, .int x3), (4, .int x4)] [] M (K159 M)) : ∀ (n : Nat) (x6 : Int32) (M : zM), zEv l G Y_X12_leave 3 0 97 [(0, .ref (G.2.1 + x0)), (1, .int x1), (2, .int x2), (3, .int x3), (4, .int x4), (5, .int x5), (6, .int x6)] [] M (F_X12_leave_L97 x0 x1 x2 x3 x4 x5 K159 n x6 M) := by
  intro n
  induction n with
  | zero => intro x6 M; exact ev_none
  | succ n ih =>
    intro x6 M
    show zEv l G Y_X12_leave 3 0 97 [(0, .ref (G.2.1 + x0)), (1, .int x1), (2, .int x2), (3, .int x3), (4, .int x4), (5, .int x5), (6, .int x6)] [] M (zit ((M x0 1) ≤ x6) (K159 M) (zjo (fun  (M7 : zM) => F_X12_leave_L97 x0 x1 x2 x3 x4 x5 K159 n (x6 + 1) M7) (fun (k3 : zM → zO) => zit (((x5 >>> (x6 &&& 31)) &&& 1) = 1) (zck (zin x4 73) (zck (zin x6 73) (zbI (F_X12_likes x0 x6 (M (zgr x0 47) (zix x4)) (M (zgr x0 47) (zix x6)) M) (fun r1 M5 => zit (r1 = 0) (k3 M5) (zck (zin x2 256) (zck (zin x2 256) (zst (zup M5 (zgr x0 54) (zix x2) ((M5 (zgr x0 54) (zix x2)) ||| ((1 : Int32) <<< (x4 &&& 31)))) (fun M6 => k3 M6)))))))) (k3 M))))
    refine ev_iload dd_X12_leave_97 6 rfl ?_
    refine ev_aload_n dd_X12_leave_99 0 rfl ?_
    refine ev_getI gf_RX12_319 dd_X12_leave_100 hx0 (by decide) ?_
    refine ev_icmp_ge 159 dd_X12_leave_103 (by decide) ?_ ?_
    · refine ev_lv (lv' := [(0, .ref (G.2.1 + x0)), (1, .int x1), (2, .int x2), (3, .int x3), (4, .int x4)]) [0, 1, 2, 3, 4] rfl ?_
      exact hK159 _
    · refine ev_iload dd_X12_leave_106 5 rfl ?_
      refine ev_iload dd_X12_leave_108 6 rfl ?_
      refine ev_ishr dd_X12_leave_110 ?_
      refine ev_iconst (v := 1) dd_X12_leave_111 (by decide) ?_
      refine ev_iand dd_X12_leave_112 ?_
      refine ev_iconst (v := 1) dd_X12_leave_113 (by decide) ?_
      refine ev_jo (fun (k3 : zM → zO) => ∀  (M7 : zM), zEv l G Y_X12_leave 3 0 153 [(0, .ref (G.2.1 + x0)), (1, .int x1), (2, .int x2), (3, .int x3), (4, .int x4), (5, .int x5), (6, .int x6)] [] M7 (k3 M7)) ?_ (fun k3 hk3 => ?_)
      · intro M7
        refine ev_iinc (j := 6) (v := 1) (lv' := [(0, .ref (G.2.1 + x0)), (1, .int x1), (2, .int x2), (3, .int x3), (4, .int x4), (5, .int x5), (6, .int (x6 + 1))]) [1, 2, 3, 4, 5, 6, 0] dd_X12_leave_153 rfl (by decide) (by decide) rfl ?_
        refine ev_goto 97 dd_X12_leave_156 (by decide) ?_
        exact ih _ _
      · refine ev_icmp_ne 153 dd_X12_leave_114 (by decide) ?_ ?_
        · exact hk3 _
        · refine ev_aload_n dd_X12_leave_117 0 rfl ?_
          refine ev_iload dd_X12_leave_118 6 rfl ?_
          refine ev_aload_n dd_X12_leave_120 0 rfl ?_
          refine ev_getR gf_RX12_87 dd_X12_leave_121 hx0 (by decide) ?_
          refine ev_iload dd_X12_leave_124 4 rfl ?_
          refine ev_iald dd_X12_leave_126 ((zg_12_47 hx0).1) ((zg_12_47 hx0).2) ?_
          refine ev_aload_n dd_X12_leave_127 0 rfl ?_
          refine ev_getR gf_RX12_87 dd_X12_leave_128 hx0 (by decide) ?_
          refine ev_iload dd_X12_leave_131 6 rfl ?_
          refine ev_iald dd_X12_leave_133 ((zg_12_47 hx0).1) ((zg_12_47 hx0).2) ?_
          refine ev_callVI (As := [.int x6, .int (M (zgr x0 47) (zix x4)), .int (M (zgr x0 47) (zix x6))]) cl_RX12_400 (ct_X12_likes l hl G x0 hx0 x6 (M (zgr x0 47) (zix x4)) (M (zgr x0 47) (zix x6)) M) dd_X12_leave_134 hx0 (by decide) (Nat.le_of_ble_eq_true rfl) (Nat.le_of_ble_eq_true rfl) rfl rfl (fun r1 M5 => ?_)
          refine ev_if_eq 153 dd_X12_leave_137 (by decide) ?_ ?_
          · exact hk3 _
          · refine ev_aload_n dd_X12_leave_140 0 rfl ?_
            refine ev_getR gf_RX12_105 dd_X12_leave_141 hx0 (by decide) ?_
            refine ev_iload_n dd_X12_leave_144 2 rfl ?_
            refine ev_dup2 dd_X12_leave_145 rfl rfl ?_
            refine ev_iald dd_X12_leave_146 ((zg_12_54 hx0).1) ((zg_12_54 hx0).2) ?_
            refine ev_iconst (v := 1) dd_X12_leave_147 (by decide) ?_
            refine ev_iload dd_X12_leave_148 4 rfl ?_
            refine ev_ishl dd_X12_leave_150 ?_
            refine ev_ior dd_X12_leave_151 ?_
            refine ev_iast dd_X12_leave_152 ((zg_12_54 hx0).1) ((zg_12_54 hx0).2) ?_
            refine ev_st (fun M6 => ?_)
            exact hk3 _
set_option maxHeartbeats 1000000 in
set_option maxRecDepth 20000 in
theorem ct_X12_leave_L58 (l : Launch) (hl : l.stackTraces = false) (G : zG) (x0 : Nat) (hx0 : zsh x0 = 12) (x1 : Int32) (x2 : Int32) (x3 : Int32) (K165 : zM → zO) (hK165 : ∀  (M : zM), zEv l G Y_X12_leave 3 0 165 [(0, .ref (G.2.1 + x0)), (1, .int x1), (2, .int x2), (3, .int x3)] [] M (K165 M)) : ∀ (n : Nat) (x4 : Int32) (M : zM), zEv l G Y_X12_leave 3 0 58 [(0, .ref (G.2.1 + x0)), (1, .int x1), (2, .int x2), (3, .int x3), (4, .int x4)] [] M (F_X12_leave_L58 x0 x1 x2 x3 K165 n x4 M) := by
  intro n
  induction n with
  | zero => intro x4 M; exact ev_none
  | succ n ih =>
    intro x4 M
    show zEv l G Y_X12_leave 3 0 58 [(0, .ref (G.2.1 + x0)), (1, .int x1), (2, .int x2), (3, .int x3), (4, .int x4)] [] M (zit ((M x0 1) ≤ x4) (K165 M) (zjo (fun  (M9 : zM) => F_X12_leave_L58 x0 x1 x2 x3 K165 n (x4 + 1) M9) (fun (k2 : zM → zO) => zit (((x2 >>> (x4 &&& 31)) &&& 1) = 0) (k2 M) (zck (zin (x2 &&& (((1 : Int32) <<< (x4 &&& 31)) ^^^ (-1))) 256) (zlt (M (zgr x0 54) (zix (x2 &&& (((1 : Int32) <<< (x4 &&& 31)) ^^^ (-1))))) (fun v2 => F_X12_leave_L97 x0 x1 x2 x3 x4 v2 (fun  (M8 : zM) => k2 M8) zN 0 M))))))
    refine ev_iload dd_X12_leave_58 4 rfl ?_
    refine ev_aload_n dd_X12_leave_60 0 rfl ?_
    refine ev_getI gf_RX12_319 dd_X12_leave_61 hx0 (by decide) ?_
    refine ev_icmp_ge 165 dd_X12_leave_64 (by decide) ?_ ?_
    · refine ev_lv (lv' := [(0, .ref (G.2.1 + x0)), (1, .int x1), (2, .int x2), (3, .int x3)]) [0, 1, 2, 3] rfl ?_
      exact hK165 _
    · refine ev_iload_n dd_X12_leave_67 2 rfl ?_
      refine ev_iload dd_X12_leave_68 4 rfl ?_
      refine ev_ishr dd_X12_leave_70 ?_
      refine ev_iconst (v := 1) dd_X12_leave_71 (by decide) ?_
      refine ev_iand dd_X12_leave_72 ?_
      refine ev_jo (fun (k2 : zM → zO) => ∀  (M9 : zM), zEv l G Y_X12_leave 3 0 159 [(0, .ref (G.2.1 + x0)), (1, .int x1), (2, .int x2), (3, .int x3), (4, .int x4)] [] M9 (k2 M9)) ?_ (fun k2 hk2 => ?_)
      · intro M9
        refine ev_iinc (j := 4) (v := 1) (lv' := [(0, .ref (G.2.1 + x0)), (1, .int x1), (2, .int x2), (3, .int x3), (4, .int (x4 + 1))]) [1, 2, 3, 4, 0] dd_X12_leave_159 rfl (by decide) (by decide) rfl ?_
        refine ev_goto 58 dd_X12_leave_162 (by decide) ?_
        exact ih _ _
      · refine ev_if_ne 79 dd_X12_leave_73 (by decide) ?_ ?_
        · refine ev_aload_n dd_X12_leave_79 0 rfl ?_
          refine ev_getR gf_RX12_105 dd_X12_leave_80 hx0 (by decide) ?_
          refine ev_iload_n dd_X12_leave_83 2 rfl ?_
          refine ev_iconst (v := 1) dd_X12_leave_84 (by decide) ?_
          refine ev_iload dd_X12_leave_85 4 rfl ?_
          refine ev_ishl dd_X12_leave_87 ?_
          refine ev_iconst (v := (-1)) dd_X12_leave_88 (by decide) ?_
          refine ev_ixor dd_X12_leave_89 ?_
          refine ev_iand dd_X12_leave_90 ?_
          refine ev_iald dd_X12_leave_91 ((zg_12_54 hx0).1) ((zg_12_54 hx0).2) ?_
          refine ev_topi (fun v2 => ?_)
          refine ev_istore (i := 5) (lv' := [(0, .ref (G.2.1 + x0)), (1, .int x1), (2, .int x2), (3, .int x3), (4, .int x4), (5, .int v2)]) [1, 2, 3, 4, 5, 0] dd_X12_leave_92 (by decide) rfl ?_
          refine ev_iconst (v := 0) dd_X12_leave_94 (by decide) ?_
          refine ev_istore (i := 6) (lv' := [(0, .ref (G.2.1 + x0)), (1, .int x1), (2, .int x2), (3, .int x3), (4, .int x4), (5, .int v2), (6, .int 0)]) [1, 2, 3, 4, 5, 6, 0] dd_X12_leave_95 (by decide) rfl ?_
          refine ct_X12_leave_L97 l hl G x0 hx0 x1 x2 x3 x4 v2 _ (fun M8 => ?_) zN _ _
          exact hk2 _
        · refine ev_goto 159 dd_X12_leave_76 (by decide) ?_
          exact hk2 _
set_option maxHeartbeats 1000000 in
set_option maxRecDepth 20000 in
theorem ct_X12_leave_L171 (l : Launch) (hl : l.stackTraces = false) (G : zG) (x0 : Nat) (hx0 : zsh x0 = 12) (x1 : Int32) (x2 : Int32) (x3 : Int32) (K241 : Int32 → zM → zO) (hK241 : ∀ (x4 : Int32) (M : zM), zEv l G Y_X12_leave 3 0 241 [(0, .ref (G.2.1 + x0)), (1, .int x1), (2, .int x2), (4, .int x4)] [] M (K241 x4 M)) : ∀ (n : Nat) (x4 : Int32) (x5 : Int32) (M : zM), zEv l G Y_X12_leave 3 0 171 [(0, .ref (G.2.1 + x0)), (1, .int x1), (2, .int x2), (3, .int x3), (4, .int x4), (5, .int x5)] [] M (F_X12_leave_L171 x0 x1 x2 x3 K241 n x4 x5 M) := by
  intro n
  induction n with
  | zero => intro x4 x5 M; exact ev_none
  | succ n ih =>
    intro x4 x5 M
    show zEv l G Y_X12_leave 3 0 171 [(0, .ref (G.2.1 + x0)), (1, .int x1), (2, .int x2), (3, .int x3), (4, .int x4), (5, .int x5)] [] M (zit ((M x0 1) ≤ x5) (K241 x4 M) (zjo (fun (w2 : Int32) (M14 : zM) => F_X12_leave_L171 x0 x1 x2 x3 K241 n w2 (x5 + 1) M14) (fun (k4 : Int32 → zM → zO) => zjo (fun  (M13 : zM) => k4 1 M13) (fun (k5 : zM → zO) => zit (x4 = 0) (zjo (fun  (M12 : zM) => k4 0 M12) (fun (k6 : zM → zO) => zit (x5 = x3) (k6 M) (zck (zin x2 256) (zit ((((M (zgr x0 54) (zix x2)) >>> (x5 &&& 31)) &&& 1) = 1) (zck (zin x3 73) (zck (zin x5 73) (zbI (F_X12_likes x0 x5 (M (zgr x0 47) (zix x3)) (M (zgr x0 47) (zix x5)) M) (fun r2 M11 => zit (r2 = 0) (k6 M11) (k5 M11))))) (k6 M))))) (k5 M)))))
    refine ev_iload dd_X12_leave_171 5 rfl ?_
    refine ev_aload_n dd_X12_leave_173 0 rfl ?_
    refine ev_getI gf_RX12_319 dd_X12_leave_174 hx0 (by decide) ?_
    refine ev_icmp_ge 241 dd_X12_leave_177 (by decide) ?_ ?_
    · refine ev_lv (lv' := [(0, .ref (G.2.1 + x0)), (1, .int x1), (2, .int x2), (4, .int x4)]) [0, 1, 2, 4] rfl ?_
      exact hK241 _ _
    · refine ev_iload dd_X12_leave_180 4 rfl ?_
      refine ev_lv (lv' := [(0, .ref (G.2.1 + x0)), (1, .int x1), (2, .int x2), (3, .int x3), (5, .int x5)]) [0, 1, 2, 3, 5] rfl ?_
      refine ev_jo (fun (k4 : Int32 → zM → zO) => ∀ (w2 : Int32) (M14 : zM), zEv l G Y_X12_leave 3 0 233 [(0, .ref (G.2.1 + x0)), (1, .int x1), (2, .int x2), (3, .int x3), (5, .int x5)] [.int w2] M14 (k4 w2 M14)) ?_ (fun k4 hk4 => ?_)
      · intro w2 M14
        refine ev_istore (i := 4) (lv' := [(0, .ref (G.2.1 + x0)), (1, .int x1), (2, .int x2), (3, .int x3), (4, .int w2), (5, .int x5)]) [1, 2, 3, 4, 0, 5] dd_X12_leave_233 (by decide) rfl ?_
        refine ev_iinc (j := 5) (v := 1) (lv' := [(0, .ref (G.2.1 + x0)), (1, .int x1), (2, .int x2), (3, .int x3), (4, .int w2), (5, .int (x5 + 1))]) [1, 2, 3, 4, 5, 0] dd_X12_leave_235 rfl (by decide) (by decide) rfl ?_
        refine ev_goto 171 dd_X12_leave_238 (by decide) ?_
        exact ih _ _ _
      · refine ev_jo (fun (k5 : zM → zO) => ∀  (M13 : zM), zEv l G Y_X12_leave 3 0 228 [(0, .ref (G.2.1 + x0)), (1, .int x1), (2, .int x2), (3, .int x3), (5, .int x5)] [] M13 (k5 M13)) ?_ (fun k5 hk5 => ?_)
        · intro M13
          refine ev_iconst (v := 1) dd_X12_leave_228 (by decide) ?_
          refine ev_goto 233 dd_X12_leave_229 (by decide) ?_
          exact hk4 _ _
        · refine ev_if_ne 228 dd_X12_leave_182 (by decide) ?_ ?_
          · exact hk5 _
          · refine ev_iload dd_X12_leave_185 4 rfl ?_
            refine ev_iload_n dd_X12_leave_187 3 rfl ?_
            refine ev_jo (fun (k6 : zM → zO) => ∀  (M12 : zM), zEv l G Y_X12_leave 3 0 232 [(0, .ref (G.2.1 + x0)), (1, .int x1), (2, .int x2), (3, .int x3), (5, .int x5)] [] M12 (k6 M12)) ?_ (fun k6 hk6 => ?_)
            · intro M12
              refine ev_iconst (v := 0) dd_X12_leave_232 (by decide) ?_
              exact hk4 _ _
            · refine ev_icmp_eq 232 dd_X12_leave_188 (by decide) ?_ ?_
              · exact hk6 _
              · refine ev_aload_n dd_X12_leave_191 0 rfl ?_
                refine ev_getR gf_RX12_105 dd_X12_leave_192 hx0 (by decide) ?_
                refine ev_iload_n dd_X12_leave_195 2 rfl ?_
                refine ev_iald dd_X12_leave_196 ((zg_12_54 hx0).1) ((zg_12_54 hx0).2) ?_
                refine ev_iload dd_X12_leave_197 4 rfl ?_
                refine ev_ishr dd_X12_leave_199 ?_
                refine ev_iconst (v := 1) dd_X12_leave_200 (by decide) ?_
                refine ev_iand dd_X12_leave_201 ?_
                refine ev_iconst (v := 1) dd_X12_leave_202 (by decide) ?_
                refine ev_icmp_ne 232 dd_X12_leave_203 (by decide) ?_ ?_
                · exact hk6 _
                · refine ev_aload_n dd_X12_leave_206 0 rfl ?_
                  refine ev_iload dd_X12_leave_207 4 rfl ?_
                  refine ev_aload_n dd_X12_leave_209 0 rfl ?_
                  refine ev_getR gf_RX12_87 dd_X12_leave_210 hx0 (by decide) ?_
                  refine ev_iload_n dd_X12_leave_213 3 rfl ?_
                  refine ev_iald dd_X12_leave_214 ((zg_12_47 hx0).1) ((zg_12_47 hx0).2) ?_
                  refine ev_aload_n dd_X12_leave_215 0 rfl ?_
                  refine ev_getR gf_RX12_87 dd_X12_leave_216 hx0 (by decide) ?_
                  refine ev_iload dd_X12_leave_219 4 rfl ?_
                  refine ev_iald dd_X12_leave_221 ((zg_12_47 hx0).1) ((zg_12_47 hx0).2) ?_
                  refine ev_callVI (As := [.int x5, .int (M (zgr x0 47) (zix x3)), .int (M (zgr x0 47) (zix x5))]) cl_RX12_400 (ct_X12_likes l hl G x0 hx0 x5 (M (zgr x0 47) (zix x3)) (M (zgr x0 47) (zix x5)) M) dd_X12_leave_222 hx0 (by decide) (Nat.le_of_ble_eq_true rfl) (Nat.le_of_ble_eq_true rfl) rfl rfl (fun r2 M11 => ?_)
                  refine ev_if_eq 232 dd_X12_leave_225 (by decide) ?_ ?_
                  · exact hk6 _
                  · exact hk5 _
set_option maxHeartbeats 1000000 in
set_option maxRecDepth 20000 in
theorem ct_X12_leave_L9 (l : Launch) (hl : l.stackTraces = false) (G : zG) (x0 : Nat) (hx0 : zsh x0 = 12) (K270 : Int32 → zM → zO) (hK270 : ∀ (x1 : Int32) (M : zM), zEv l G Y_X12_leave 3 0 270 [(1, .int x1)] [] M (K270 x1 M)) : ∀ (n : Nat) (x1 : Int32) (x2 : Int32) (M : zM), zEv l G Y_X12_leave 3 0 9 [(0, .ref (G.2.1 + x0)), (1, .int x1), (2, .int x2)] [] M (F_X12_leave_L9 x0 K270 n x1 x2 M) := by
  intro n
  induction n with
  | zero => intro x1 x2 M; exact ev_none
  | succ n ih =>
    intro x1 x2 M
    show zEv l G Y_X12_leave 3 0 9 [(0, .ref (G.2.1 + x0)), (1, .int x1), (2, .int x2)] [] M (zit (((1 : Int32) <<< ((M x0 1) &&& 31)) ≤ x2) (K270 x1 M) (F_X12_leave_L21 x0 x1 x2 (fun (y1 : Int32) (M2 : zM) => zjo (fun (w1 : Int32) (M3 : zM) => zck (zin x2 256) (zst (zup M3 (zgr x0 54) (zix x2) w1) (fun M4 => zlt (y1 + 1) (fun v1 => F_X12_leave_L58 x0 x1 x2 y1 (fun  (M10 : zM) => F_X12_leave_L171 x0 x1 x2 y1 (fun (y2 : Int32) (M15 : zM) => zjo (fun (w3 : Int32) (M19 : zM) => F_X12_leave_L9 x0 K270 n w3 (x2 + 1) M19) (fun (k7 : Int32 → zM → zO) => zit (y2 = 0) (k7 x1 M15) (zjo (fun  (M18 : zM) => k7 x2 M18) (fun (k8 : zM → zO) => zit (x1 = (-1)) (k8 M15) (zbI (F_X12_bits x2 M15) (fun r3 M16 => zbI (F_X12_bits x1 M16) (fun r4 M17 => zit (r4 ≤ r3) (k7 x1 M17) (k8 M17)))))))) zN 0 0 M10) zN v1 M4)))) (fun (k1 : Int32 → zM → zO) => zit (x2 = ((1 : Int32) <<< (y1 &&& 31))) (k1 x2 M2) (k1 0 M2))) zN 0 M))
    refine ev_iload_n dd_X12_leave_9 2 rfl ?_
    refine ev_iconst (v := 1) dd_X12_leave_10 (by decide) ?_
    refine ev_aload_n dd_X12_leave_11 0 rfl ?_
    refine ev_getI gf_RX12_319 dd_X12_leave_12 hx0 (by decide) ?_
    refine ev_ishl dd_X12_leave_15 ?_
    refine ev_icmp_ge 270 dd_X12_leave_16 (by decide) ?_ ?_
    · refine ev_lv (lv' := [(1, .int x1)]) [1] rfl ?_
      exact hK270 _ _
    · refine ev_iconst (v := 0) dd_X12_leave_19 (by decide) ?_
      refine ev_istore_n (i := 3) (lv' := [(0, .ref (G.2.1 + x0)), (1, .int x1), (2, .int x2), (3, .int 0)]) [1, 2, 3, 0] dd_X12_leave_20 rfl (by decide) rfl ?_
      refine ct_X12_leave_L21 l hl G x0 hx0 x1 x2 _ (fun y1 M2 => ?_) zN _ _
      refine ev_aload_n dd_X12_leave_35 0 rfl ?_
      refine ev_getR gf_RX12_105 dd_X12_leave_36 hx0 (by decide) ?_
      refine ev_iload_n dd_X12_leave_39 2 rfl ?_
      refine ev_iload_n dd_X12_leave_40 2 rfl ?_
      refine ev_iconst (v := 1) dd_X12_leave_41 (by decide) ?_
      refine ev_iload_n dd_X12_leave_42 3 rfl ?_
      refine ev_ishl dd_X12_leave_43 ?_
      refine ev_jo (fun (k1 : Int32 → zM → zO) => ∀ (w1 : Int32) (M3 : zM), zEv l G Y_X12_leave 3 0 52 [(0, .ref (G.2.1 + x0)), (1, .int x1), (2, .int x2), (3, .int y1)] [.int w1, .int x2, .ref (G.2.1 + (zgr x0 54))] M3 (k1 w1 M3)) ?_ (fun k1 hk1 => ?_)
      · intro w1 M3
        refine ev_iast dd_X12_leave_52 ((zg_12_54 hx0).1) ((zg_12_54 hx0).2) ?_
        refine ev_st (fun M4 => ?_)
        refine ev_iload_n dd_X12_leave_53 3 rfl ?_
        refine ev_iconst (v := 1) dd_X12_leave_54 (by decide) ?_
        refine ev_iadd dd_X12_leave_55 ?_
        refine ev_topi (fun v1 => ?_)
        refine ev_istore (i := 4) (lv' := [(0, .ref (G.2.1 + x0)), (1, .int x1), (2, .int x2), (3, .int y1), (4, .int v1)]) [1, 2, 3, 4, 0] dd_X12_leave_56 (by decide) rfl ?_
        refine ct_X12_leave_L58 l hl G x0 hx0 x1 x2 y1 _ (fun M10 => ?_) zN _ _
        refine ev_iconst (v := 0) dd_X12_leave_165 (by decide) ?_
        refine ev_istore (i := 4) (lv' := [(0, .ref (G.2.1 + x0)), (1, .int x1), (2, .int x2), (3, .int y1), (4, .int 0)]) [1, 2, 3, 4, 0] dd_X12_leave_166 (by decide) rfl ?_
        refine ev_iconst (v := 0) dd_X12_leave_168 (by decide) ?_
        refine ev_istore (i := 5) (lv' := [(0, .ref (G.2.1 + x0)), (1, .int x1), (2, .int x2), (3, .int y1), (4, .int 0), (5, .int 0)]) [1, 2, 3, 4, 5, 0] dd_X12_leave_169 (by decide) rfl ?_
        refine ct_X12_leave_L171 l hl G x0 hx0 x1 x2 y1 _ (fun y2 M15 => ?_) zN _ _ _
        refine ev_iload dd_X12_leave_241 3 rfl ?_
        refine ev_lv (lv' := [(0, .ref (G.2.1 + x0)), (1, .int x1), (2, .int x2)]) [0, 1, 2] rfl ?_
        refine ev_jo (fun (k7 : Int32 → zM → zO) => ∀ (w3 : Int32) (M19 : zM), zEv l G Y_X12_leave 3 0 264 [(0, .ref (G.2.1 + x0)), (1, .int w3), (2, .int x2)] [] M19 (k7 w3 M19)) ?_ (fun k7 hk7 => ?_)
        · intro w3 M19
          refine ev_iinc (j := 2) (v := 1) (lv' := [(0, .ref (G.2.1 + x0)), (1, .int w3), (2, .int (x2 + 1))]) [1, 2, 0] dd_X12_leave_264 rfl (by decide) (by decide) rfl ?_
          refine ev_goto 9 dd_X12_leave_267 (by decide) ?_
          exact ih _ _ _
        · refine ev_if_eq 264 dd_X12_leave_243 (by decide) ?_ ?_
          · exact hk7 _ _
          · refine ev_iload_n dd_X12_leave_246 1 rfl ?_
            refine ev_iconst (v := (-1)) dd_X12_leave_247 (by decide) ?_
            refine ev_jo (fun (k8 : zM → zO) => ∀  (M18 : zM), zEv l G Y_X12_leave 3 0 262 [(0, .ref (G.2.1 + x0)), (2, .int x2)] [] M18 (k8 M18)) ?_ (fun k8 hk8 => ?_)
            · intro M18
              refine ev_iload_n dd_X12_leave_262 1 rfl ?_
              refine ev_istore_n (i := 1) (lv' := [(0, .ref (G.2.1 + x0)), (1, .int x2), (2, .int x2)]) [1, 0, 2] dd_X12_leave_263 rfl (by decide) rfl ?_
              exact hk7 _ _
            · refine ev_icmp_eq 262 dd_X12_leave_248 (by decide) ?_ ?_
              · refine ev_lv (lv' := [(0, .ref (G.2.1 + x0)), (2, .int x2)]) [0, 2] rfl ?_
                exact hk8 _
              · refine ev_iload_n dd_X12_leave_251 2 rfl ?_
                refine ev_callSI (As := [.int x2]) cl_RX12_406 (ct_X12_bits l hl G x2 M15) dd_X12_leave_252 (by decide) (Nat.le_of_ble_eq_true rfl) (Nat.le_of_ble_eq_true rfl) rfl rfl (fun r3 M16 => ?_)
                refine ev_iload_n dd_X12_leave_255 1 rfl ?_
                refine ev_callSI (As := [.int x1]) cl_RX12_406 (ct_X12_bits l hl G x1 M16) dd_X12_leave_256 (by decide) (Nat.le_of_ble_eq_true rfl) (Nat.le_of_ble_eq_true rfl) rfl rfl (fun r4 M17 => ?_)
                refine ev_icmp_ge 264 dd_X12_leave_259 (by decide) ?_ ?_
                · exact hk7 _ _
                · refine ev_lv (lv' := [(0, .ref (G.2.1 + x0)), (2, .int x2)]) [0, 2] rfl ?_
                  exact hk8 _
      · refine ev_icmp_ne 51 dd_X12_leave_44 (by decide) ?_ ?_
        · refine ev_iconst (v := 0) dd_X12_leave_51 (by decide) ?_
          exact hk1 _ _
        · refine ev_iload_n dd_X12_leave_47 2 rfl ?_
          refine ev_goto 52 dd_X12_leave_48 (by decide) ?_
          exact hk1 _ _
set_option maxHeartbeats 1000000 in
set_option maxRecDepth 20000 in
theorem ct_X12_leave (l : Launch) (hl : l.stackTraces = false) (G : zG) (t : Nat) (ht : zsh t = 12) (M : zM) : zMt l G Y_X12_leave 3 [.ref (G.2.1 + t)] M (F_X12_leave t M) := by
  refine zMt_of (by decide +kernel) (Nat.le_of_ble_eq_true rfl) ?_
  show zEv l G Y_X12_leave 3 0 0 [(0, .ref (G.2.1 + t))] [] M (zst (zup M t 0 0) (fun M1 => F_X12_leave_L9 t (fun (y3 : Int32) (M20 : zM) => zI y3 M20) zN (-1) 1 M1))
  refine ev_aload_n dd_X12_leave_0 0 rfl ?_
  refine ev_iconst (v := 0) dd_X12_leave_1 (by decide) ?_
  refine ev_putI gw_RX12_153 dd_X12_leave_2 ht (by decide) ?_
  refine ev_st (fun M1 => ?_)
  refine ev_iconst (v := (-1)) dd_X12_leave_5 (by decide) ?_
  refine ev_istore_n (i := 1) (lv' := [(0, .ref (G.2.1 + t)), (1, .int (-1))]) [1, 0] dd_X12_leave_6 rfl (by decide) rfl ?_
  refine ev_iconst (v := 1) dd_X12_leave_7 (by decide) ?_
  refine ev_istore_n (i := 2) (lv' := [(0, .ref (G.2.1 + t)), (1, .int (-1)), (2, .int 1)]) [1, 2, 0] dd_X12_leave_8 rfl (by decide) rfl ?_
  refine ct_X12_leave_L9 l hl G t ht _ (fun y3 M20 => ?_) zN _ _ _
  refine ev_iload_n dd_X12_leave_270 0 rfl ?_
  refine ev_lv (lv' := []) [] rfl ?_
  exact ev_iret dd_X12_leave_271 rfl (Nat.le_of_ble_eq_true rfl) rfl
/-! X12_letter -/
theorem dd_X12_letter_0 : decode Y_X12_letter.2.1 0 = .ok (.aload_n 0, 1) := by decide +kernel
theorem dd_X12_letter_1 : decode Y_X12_letter.2.1 1 = .ok (.iconst 0, 1) := by decide +kernel
theorem dd_X12_letter_2 : decode Y_X12_letter.2.1 2 = .ok (.putfield 153, 3) := by decide +kernel
theorem dd_X12_letter_5 : decode Y_X12_letter.2.1 5 = .ok (.aload_n 0, 1) := by decide +kernel
theorem dd_X12_letter_6 : decode Y_X12_letter.2.1 6 = .ok (.iload_n 1, 1) := by decide +kernel
theorem dd_X12_letter_7 : decode Y_X12_letter.2.1 7 = .ok (.invokevirtual 346, 3) := by decide +kernel
theorem dd_X12_letter_10 : decode Y_X12_letter.2.1 10 = .ok (.ifCond .eq 44, 3) := by decide +kernel
theorem dd_X12_letter_13 : decode Y_X12_letter.2.1 13 = .ok (.aload_n 0, 1) := by decide +kernel
theorem dd_X12_letter_14 : decode Y_X12_letter.2.1 14 = .ok (.iload_n 2, 1) := by decide +kernel
theorem dd_X12_letter_15 : decode Y_X12_letter.2.1 15 = .ok (.ifCond .lt 17, 3) := by decide +kernel
theorem dd_X12_letter_18 : decode Y_X12_letter.2.1 18 = .ok (.iload_n 2, 1) := by decide +kernel
theorem dd_X12_letter_19 : decode Y_X12_letter.2.1 19 = .ok (.aload_n 0, 1) := by decide +kernel
theorem dd_X12_letter_20 : decode Y_X12_letter.2.1 20 = .ok (.getfield 20, 3) := by decide +kernel
theorem dd_X12_letter_23 : decode Y_X12_letter.2.1 23 = .ok (.iload_n 1, 1) := by decide +kernel
theorem dd_X12_letter_24 : decode Y_X12_letter.2.1 24 = .ok (.iaload, 1) := by decide +kernel
theorem dd_X12_letter_25 : decode Y_X12_letter.2.1 25 = .ok (.if_icmp .ge 7, 3) := by decide +kernel
theorem dd_X12_letter_28 : decode Y_X12_letter.2.1 28 = .ok (.iconst 1, 1) := by decide +kernel
theorem dd_X12_letter_29 : decode Y_X12_letter.2.1 29 = .ok (.goto 4, 3) := by decide +kernel
theorem dd_X12_letter_32 : decode Y_X12_letter.2.1 32 = .ok (.iconst 0, 1) := by decide +kernel
theorem dd_X12_letter_33 : decode Y_X12_letter.2.1 33 = .ok (.iconst 1, 1) := by decide +kernel
theorem dd_X12_letter_34 : decode Y_X12_letter.2.1 34 = .ok (.invokevirtual 312, 3) := by decide +kernel
theorem dd_X12_letter_37 : decode Y_X12_letter.2.1 37 = .ok (.ifCond .eq 17, 3) := by decide +kernel
theorem dd_X12_letter_40 : decode Y_X12_letter.2.1 40 = .ok (.aload_n 0, 1) := by decide +kernel
theorem dd_X12_letter_41 : decode Y_X12_letter.2.1 41 = .ok (.getfield 16, 3) := by decide +kernel
theorem dd_X12_letter_44 : decode Y_X12_letter.2.1 44 = .ok (.bipush 9, 2) := by decide +kernel
theorem dd_X12_letter_46 : decode Y_X12_letter.2.1 46 = .ok (.iload_n 1, 1) := by decide +kernel
theorem dd_X12_letter_47 : decode Y_X12_letter.2.1 47 = .ok (.imul, 1) := by decide +kernel
theorem dd_X12_letter_48 : decode Y_X12_letter.2.1 48 = .ok (.iload_n 2, 1) := by decide +kernel
theorem dd_X12_letter_49 : decode Y_X12_letter.2.1 49 = .ok (.iadd, 1) := by decide +kernel
theorem dd_X12_letter_50 : decode Y_X12_letter.2.1 50 = .ok (.iaload, 1) := by decide +kernel
theorem dd_X12_letter_51 : decode Y_X12_letter.2.1 51 = .ok (.goto 4, 3) := by decide +kernel
theorem dd_X12_letter_54 : decode Y_X12_letter.2.1 54 = .ok (.iconst 0, 1) := by decide +kernel
theorem dd_X12_letter_55 : decode Y_X12_letter.2.1 55 = .ok (.ireturn, 1) := by decide +kernel
def F_X12_letter (t : Nat) (a1 : Int32) (a2 : Int32) (M : zM) : zO := zst (zup M t 0 0) (fun M1 => zbI (F_X12_isOne t a1 M1) (fun r1 M2 => zjo (fun (w2 : Int32) (M7 : zM) => zI w2 M7) (fun (k1 : Int32 → zM → zO) => zjo (fun  (M6 : zM) => k1 0 M6) (fun (k2 : zM → zO) => zit (r1 = 0) (k2 M2) (zjo (fun (w1 : Int32) (M4 : zM) => zbI (F_X12_right t w1 1 M4) (fun r2 M5 => zit (r2 = 0) (k2 M5) (zck (zin ((9 * a1) + a2) 72) (k1 (M5 (zgr t 5) (zix ((9 * a1) + a2))) M5)))) (fun (k3 : Int32 → zM → zO) => zjo (fun  (M3 : zM) => k3 0 M3) (fun (k4 : zM → zO) => zit (a2 < 0) (k4 M2) (zck (zin a1 8) (zit ((M2 (zgr t 6) (zix a1)) ≤ a2) (k4 M2) (k3 1 M2))))))))))
set_option maxHeartbeats 1000000 in
set_option maxRecDepth 20000 in
theorem ct_X12_letter (l : Launch) (hl : l.stackTraces = false) (G : zG) (t : Nat) (ht : zsh t = 12) (a1 : Int32) (a2 : Int32) (M : zM) : zMt l G Y_X12_letter 3 [.ref (G.2.1 + t), .int a1, .int a2] M (F_X12_letter t a1 a2 M) := by
  refine zMt_of (by decide +kernel) (Nat.le_of_ble_eq_true rfl) ?_
  show zEv l G Y_X12_letter 3 0 0 [(0, .ref (G.2.1 + t)), (1, .int a1), (2, .int a2)] [] M (zst (zup M t 0 0) (fun M1 => zbI (F_X12_isOne t a1 M1) (fun r1 M2 => zjo (fun (w2 : Int32) (M7 : zM) => zI w2 M7) (fun (k1 : Int32 → zM → zO) => zjo (fun  (M6 : zM) => k1 0 M6) (fun (k2 : zM → zO) => zit (r1 = 0) (k2 M2) (zjo (fun (w1 : Int32) (M4 : zM) => zbI (F_X12_right t w1 1 M4) (fun r2 M5 => zit (r2 = 0) (k2 M5) (zck (zin ((9 * a1) + a2) 72) (k1 (M5 (zgr t 5) (zix ((9 * a1) + a2))) M5)))) (fun (k3 : Int32 → zM → zO) => zjo (fun  (M3 : zM) => k3 0 M3) (fun (k4 : zM → zO) => zit (a2 < 0) (k4 M2) (zck (zin a1 8) (zit ((M2 (zgr t 6) (zix a1)) ≤ a2) (k4 M2) (k3 1 M2)))))))))))
  refine ev_aload_n dd_X12_letter_0 0 rfl ?_
  refine ev_iconst (v := 0) dd_X12_letter_1 (by decide) ?_
  refine ev_putI gw_RX12_153 dd_X12_letter_2 ht (by decide) ?_
  refine ev_st (fun M1 => ?_)
  refine ev_aload_n dd_X12_letter_5 0 rfl ?_
  refine ev_iload_n dd_X12_letter_6 1 rfl ?_
  refine ev_callVI (As := [.int a1]) cl_RX12_346 (ct_X12_isOne l hl G t ht a1 M1) dd_X12_letter_7 ht (by decide) (Nat.le_of_ble_eq_true rfl) (Nat.le_of_ble_eq_true rfl) rfl rfl (fun r1 M2 => ?_)
  refine ev_jo (fun (k1 : Int32 → zM → zO) => ∀ (w2 : Int32) (M7 : zM), zEv l G Y_X12_letter 3 0 55 [] [.int w2] M7 (k1 w2 M7)) ?_ (fun k1 hk1 => ?_)
  · intro w2 M7
    exact ev_iret dd_X12_letter_55 rfl (Nat.le_of_ble_eq_true rfl) rfl
  · refine ev_jo (fun (k2 : zM → zO) => ∀  (M6 : zM), zEv l G Y_X12_letter 3 0 54 [] [] M6 (k2 M6)) ?_ (fun k2 hk2 => ?_)
    · intro M6
      refine ev_iconst (v := 0) dd_X12_letter_54 (by decide) ?_
      exact hk1 _ _
    · refine ev_if_eq 54 dd_X12_letter_10 (by decide) ?_ ?_
      · refine ev_lv (lv' := []) [] rfl ?_
        exact hk2 _
      · refine ev_aload_n dd_X12_letter_13 0 rfl ?_
        refine ev_iload_n dd_X12_letter_14 2 rfl ?_
        refine ev_jo (fun (k3 : Int32 → zM → zO) => ∀ (w1 : Int32) (M4 : zM), zEv l G Y_X12_letter 3 0 33 [(0, .ref (G.2.1 + t)), (1, .int a1), (2, .int a2)] [.int w1, .ref (G.2.1 + t)] M4 (k3 w1 M4)) ?_ (fun k3 hk3 => ?_)
        · intro w1 M4
          refine ev_iconst (v := 1) dd_X12_letter_33 (by decide) ?_
          refine ev_callVI (As := [.int w1, .int 1]) cl_RX12_312 (ct_X12_right l hl G t ht w1 1 M4) dd_X12_letter_34 ht (by decide) (Nat.le_of_ble_eq_true rfl) (Nat.le_of_ble_eq_true rfl) rfl rfl (fun r2 M5 => ?_)
          refine ev_if_eq 54 dd_X12_letter_37 (by decide) ?_ ?_
          · refine ev_lv (lv' := []) [] rfl ?_
            exact hk2 _
          · refine ev_aload_n dd_X12_letter_40 0 rfl ?_
            refine ev_lv (lv' := [(1, .int a1), (2, .int a2)]) [1, 2] rfl ?_
            refine ev_getR gf_RX12_16 dd_X12_letter_41 ht (by decide) ?_
            refine ev_bipush (v := 9) dd_X12_letter_44 (by decide) ?_
            refine ev_iload_n dd_X12_letter_46 0 rfl ?_
            refine ev_lv (lv' := [(2, .int a2)]) [1] rfl ?_
            refine ev_imul dd_X12_letter_47 ?_
            refine ev_iload_n dd_X12_letter_48 0 rfl ?_
            refine ev_lv (lv' := []) [] rfl ?_
            refine ev_iadd dd_X12_letter_49 ?_
            refine ev_iald dd_X12_letter_50 ((zg_12_5 ht).1) ((zg_12_5 ht).2) ?_
            refine ev_goto 55 dd_X12_letter_51 (by decide) ?_
            exact hk1 _ _
        · refine ev_jo (fun (k4 : zM → zO) => ∀  (M3 : zM), zEv l G Y_X12_letter 3 0 32 [(0, .ref (G.2.1 + t)), (1, .int a1), (2, .int a2)] [.ref (G.2.1 + t)] M3 (k4 M3)) ?_ (fun k4 hk4 => ?_)
          · intro M3
            refine ev_iconst (v := 0) dd_X12_letter_32 (by decide) ?_
            exact hk3 _ _
          · refine ev_if_lt 32 dd_X12_letter_15 (by decide) ?_ ?_
            · exact hk4 _
            · refine ev_iload_n dd_X12_letter_18 2 rfl ?_
              refine ev_aload_n dd_X12_letter_19 0 rfl ?_
              refine ev_getR gf_RX12_20 dd_X12_letter_20 ht (by decide) ?_
              refine ev_iload_n dd_X12_letter_23 1 rfl ?_
              refine ev_iald dd_X12_letter_24 ((zg_12_6 ht).1) ((zg_12_6 ht).2) ?_
              refine ev_icmp_ge 32 dd_X12_letter_25 (by decide) ?_ ?_
              · exact hk4 _
              · refine ev_iconst (v := 1) dd_X12_letter_28 (by decide) ?_
                refine ev_goto 33 dd_X12_letter_29 (by decide) ?_
                exact hk3 _ _
/-! X12_lie -/
theorem dd_X12_lie_0 : decode Y_X12_lie.2.1 0 = .ok (.aload_n 0, 1) := by decide +kernel
theorem dd_X12_lie_1 : decode Y_X12_lie.2.1 1 = .ok (.getfield 87, 3) := by decide +kernel
theorem dd_X12_lie_4 : decode Y_X12_lie.2.1 4 = .ok (.iload_n 1, 1) := by decide +kernel
theorem dd_X12_lie_5 : decode Y_X12_lie.2.1 5 = .ok (.iaload, 1) := by decide +kernel
theorem dd_X12_lie_6 : decode Y_X12_lie.2.1 6 = .ok (.istore 4, 2) := by decide +kernel
theorem dd_X12_lie_8 : decode Y_X12_lie.2.1 8 = .ok (.aload_n 0, 1) := by decide +kernel
theorem dd_X12_lie_9 : decode Y_X12_lie.2.1 9 = .ok (.getfield 87, 3) := by decide +kernel
theorem dd_X12_lie_12 : decode Y_X12_lie.2.1 12 = .ok (.iload_n 2, 1) := by decide +kernel
theorem dd_X12_lie_13 : decode Y_X12_lie.2.1 13 = .ok (.iaload, 1) := by decide +kernel
theorem dd_X12_lie_14 : decode Y_X12_lie.2.1 14 = .ok (.istore 5, 2) := by decide +kernel
theorem dd_X12_lie_16 : decode Y_X12_lie.2.1 16 = .ok (.aload_n 0, 1) := by decide +kernel
theorem dd_X12_lie_17 : decode Y_X12_lie.2.1 17 = .ok (.getfield 23, 3) := by decide +kernel
theorem dd_X12_lie_20 : decode Y_X12_lie.2.1 20 = .ok (.iload 4, 2) := by decide +kernel
theorem dd_X12_lie_22 : decode Y_X12_lie.2.1 22 = .ok (.iaload, 1) := by decide +kernel
theorem dd_X12_lie_23 : decode Y_X12_lie.2.1 23 = .ok (.aload_n 0, 1) := by decide +kernel
theorem dd_X12_lie_24 : decode Y_X12_lie.2.1 24 = .ok (.getfield 23, 3) := by decide +kernel
theorem dd_X12_lie_27 : decode Y_X12_lie.2.1 27 = .ok (.iload 5, 2) := by decide +kernel
theorem dd_X12_lie_29 : decode Y_X12_lie.2.1 29 = .ok (.iaload, 1) := by decide +kernel
theorem dd_X12_lie_30 : decode Y_X12_lie.2.1 30 = .ok (.if_icmp .le 13, 3) := by decide +kernel
theorem dd_X12_lie_33 : decode Y_X12_lie.2.1 33 = .ok (.aload_n 0, 1) := by decide +kernel
theorem dd_X12_lie_34 : decode Y_X12_lie.2.1 34 = .ok (.getfield 23, 3) := by decide +kernel
theorem dd_X12_lie_37 : decode Y_X12_lie.2.1 37 = .ok (.iload 4, 2) := by decide +kernel
theorem dd_X12_lie_39 : decode Y_X12_lie.2.1 39 = .ok (.iaload, 1) := by decide +kernel
theorem dd_X12_lie_40 : decode Y_X12_lie.2.1 40 = .ok (.goto 10, 3) := by decide +kernel
theorem dd_X12_lie_43 : decode Y_X12_lie.2.1 43 = .ok (.aload_n 0, 1) := by decide +kernel
theorem dd_X12_lie_44 : decode Y_X12_lie.2.1 44 = .ok (.getfield 23, 3) := by decide +kernel
theorem dd_X12_lie_47 : decode Y_X12_lie.2.1 47 = .ok (.iload 5, 2) := by decide +kernel
theorem dd_X12_lie_49 : decode Y_X12_lie.2.1 49 = .ok (.iaload, 1) := by decide +kernel
theorem dd_X12_lie_50 : decode Y_X12_lie.2.1 50 = .ok (.iload_n 3, 1) := by decide +kernel
theorem dd_X12_lie_51 : decode Y_X12_lie.2.1 51 = .ok (.iadd, 1) := by decide +kernel
theorem dd_X12_lie_52 : decode Y_X12_lie.2.1 52 = .ok (.istore 6, 2) := by decide +kernel
theorem dd_X12_lie_54 : decode Y_X12_lie.2.1 54 = .ok (.aload_n 0, 1) := by decide +kernel
theorem dd_X12_lie_55 : decode Y_X12_lie.2.1 55 = .ok (.getfield 23, 3) := by decide +kernel
theorem dd_X12_lie_58 : decode Y_X12_lie.2.1 58 = .ok (.iload 4, 2) := by decide +kernel
theorem dd_X12_lie_60 : decode Y_X12_lie.2.1 60 = .ok (.iaload, 1) := by decide +kernel
theorem dd_X12_lie_61 : decode Y_X12_lie.2.1 61 = .ok (.aload_n 0, 1) := by decide +kernel
theorem dd_X12_lie_62 : decode Y_X12_lie.2.1 62 = .ok (.getfield 20, 3) := by decide +kernel
theorem dd_X12_lie_65 : decode Y_X12_lie.2.1 65 = .ok (.iload 4, 2) := by decide +kernel
theorem dd_X12_lie_67 : decode Y_X12_lie.2.1 67 = .ok (.iaload, 1) := by decide +kernel
theorem dd_X12_lie_68 : decode Y_X12_lie.2.1 68 = .ok (.iadd, 1) := by decide +kernel
theorem dd_X12_lie_69 : decode Y_X12_lie.2.1 69 = .ok (.iload_n 3, 1) := by decide +kernel
theorem dd_X12_lie_70 : decode Y_X12_lie.2.1 70 = .ok (.isub, 1) := by decide +kernel
theorem dd_X12_lie_71 : decode Y_X12_lie.2.1 71 = .ok (.istore 7, 2) := by decide +kernel
theorem dd_X12_lie_73 : decode Y_X12_lie.2.1 73 = .ok (.aload_n 0, 1) := by decide +kernel
theorem dd_X12_lie_74 : decode Y_X12_lie.2.1 74 = .ok (.getfield 23, 3) := by decide +kernel
theorem dd_X12_lie_77 : decode Y_X12_lie.2.1 77 = .ok (.iload 5, 2) := by decide +kernel
theorem dd_X12_lie_79 : decode Y_X12_lie.2.1 79 = .ok (.iaload, 1) := by decide +kernel
theorem dd_X12_lie_80 : decode Y_X12_lie.2.1 80 = .ok (.aload_n 0, 1) := by decide +kernel
theorem dd_X12_lie_81 : decode Y_X12_lie.2.1 81 = .ok (.getfield 20, 3) := by decide +kernel
theorem dd_X12_lie_84 : decode Y_X12_lie.2.1 84 = .ok (.iload 5, 2) := by decide +kernel
theorem dd_X12_lie_86 : decode Y_X12_lie.2.1 86 = .ok (.iaload, 1) := by decide +kernel
theorem dd_X12_lie_87 : decode Y_X12_lie.2.1 87 = .ok (.iadd, 1) := by decide +kernel
theorem dd_X12_lie_88 : decode Y_X12_lie.2.1 88 = .ok (.iload_n 3, 1) := by decide +kernel
theorem dd_X12_lie_89 : decode Y_X12_lie.2.1 89 = .ok (.isub, 1) := by decide +kernel
theorem dd_X12_lie_90 : decode Y_X12_lie.2.1 90 = .ok (.istore 8, 2) := by decide +kernel
theorem dd_X12_lie_92 : decode Y_X12_lie.2.1 92 = .ok (.aload_n 0, 1) := by decide +kernel
theorem dd_X12_lie_93 : decode Y_X12_lie.2.1 93 = .ok (.getfield 26, 3) := by decide +kernel
theorem dd_X12_lie_96 : decode Y_X12_lie.2.1 96 = .ok (.iload 4, 2) := by decide +kernel
theorem dd_X12_lie_98 : decode Y_X12_lie.2.1 98 = .ok (.iaload, 1) := by decide +kernel
theorem dd_X12_lie_99 : decode Y_X12_lie.2.1 99 = .ok (.aload_n 0, 1) := by decide +kernel
theorem dd_X12_lie_100 : decode Y_X12_lie.2.1 100 = .ok (.getfield 26, 3) := by decide +kernel
theorem dd_X12_lie_103 : decode Y_X12_lie.2.1 103 = .ok (.iload 5, 2) := by decide +kernel
theorem dd_X12_lie_105 : decode Y_X12_lie.2.1 105 = .ok (.iaload, 1) := by decide +kernel
theorem dd_X12_lie_106 : decode Y_X12_lie.2.1 106 = .ok (.if_icmp .ne 21, 3) := by decide +kernel
theorem dd_X12_lie_109 : decode Y_X12_lie.2.1 109 = .ok (.iload 6, 2) := by decide +kernel
theorem dd_X12_lie_111 : decode Y_X12_lie.2.1 111 = .ok (.iload 7, 2) := by decide +kernel
theorem dd_X12_lie_113 : decode Y_X12_lie.2.1 113 = .ok (.if_icmp .ge 14, 3) := by decide +kernel
theorem dd_X12_lie_116 : decode Y_X12_lie.2.1 116 = .ok (.iload 6, 2) := by decide +kernel
theorem dd_X12_lie_118 : decode Y_X12_lie.2.1 118 = .ok (.iload 8, 2) := by decide +kernel
theorem dd_X12_lie_120 : decode Y_X12_lie.2.1 120 = .ok (.if_icmp .ge 7, 3) := by decide +kernel
theorem dd_X12_lie_123 : decode Y_X12_lie.2.1 123 = .ok (.iconst 1, 1) := by decide +kernel
theorem dd_X12_lie_124 : decode Y_X12_lie.2.1 124 = .ok (.goto 4, 3) := by decide +kernel
theorem dd_X12_lie_127 : decode Y_X12_lie.2.1 127 = .ok (.iconst 0, 1) := by decide +kernel
theorem dd_X12_lie_128 : decode Y_X12_lie.2.1 128 = .ok (.ireturn, 1) := by decide +kernel
def F_X12_lie (t : Nat) (a1 : Int32) (a2 : Int32) (a3 : Int32) (M : zM) : zO := zck (zin a1 73) (zlt (M (zgr t 47) (zix a1)) (fun v1 => zck (zin a2 73) (zlt (M (zgr t 47) (zix a2)) (fun v2 => zck (zin v1 8) (zck (zin v2 8) (zjo (fun (w1 : Int32) (M1 : zM) => zlt (w1 + a3) (fun v3 => zck (zin v1 8) (zck (zin v1 8) (zlt (((M1 (zgr t 7) (zix v1)) + (M1 (zgr t 6) (zix v1))) - a3) (fun v4 => zck (zin v2 8) (zck (zin v2 8) (zlt (((M1 (zgr t 7) (zix v2)) + (M1 (zgr t 6) (zix v2))) - a3) (fun v5 => zck (zin v1 8) (zck (zin v2 8) (zjo (fun (w2 : Int32) (M3 : zM) => zck (zbo w2) (zI w2 M3)) (fun (k2 : Int32 → zM → zO) => zjo (fun  (M2 : zM) => k2 0 M2) (fun (k3 : zM → zO) => zit ((M1 (zgr t 8) (zix v1)) = (M1 (zgr t 8) (zix v2))) (zit (v4 ≤ v3) (k3 M1) (zit (v5 ≤ v3) (k3 M1) (k2 1 M1))) (k3 M1))))))))))))) (fun (k1 : Int32 → zM → zO) => zit ((M (zgr t 7) (zix v1)) ≤ (M (zgr t 7) (zix v2))) (zck (zin v2 8) (k1 (M (zgr t 7) (zix v2)) M)) (zck (zin v1 8) (k1 (M (zgr t 7) (zix v1)) M)))))))))
set_option maxHeartbeats 1000000 in
set_option maxRecDepth 20000 in
theorem ct_X12_lie (l : Launch) (hl : l.stackTraces = false) (G : zG) (t : Nat) (ht : zsh t = 12) (a1 : Int32) (a2 : Int32) (a3 : Int32) (M : zM) : zMt l G Y_X12_lie 1 [.ref (G.2.1 + t), .int a1, .int a2, .int a3] M (F_X12_lie t a1 a2 a3 M) := by
  refine zMt_of (by decide +kernel) (Nat.le_of_ble_eq_true rfl) ?_
  show zEv l G Y_X12_lie 1 0 0 [(0, .ref (G.2.1 + t)), (1, .int a1), (2, .int a2), (3, .int a3)] [] M (zck (zin a1 73) (zlt (M (zgr t 47) (zix a1)) (fun v1 => zck (zin a2 73) (zlt (M (zgr t 47) (zix a2)) (fun v2 => zck (zin v1 8) (zck (zin v2 8) (zjo (fun (w1 : Int32) (M1 : zM) => zlt (w1 + a3) (fun v3 => zck (zin v1 8) (zck (zin v1 8) (zlt (((M1 (zgr t 7) (zix v1)) + (M1 (zgr t 6) (zix v1))) - a3) (fun v4 => zck (zin v2 8) (zck (zin v2 8) (zlt (((M1 (zgr t 7) (zix v2)) + (M1 (zgr t 6) (zix v2))) - a3) (fun v5 => zck (zin v1 8) (zck (zin v2 8) (zjo (fun (w2 : Int32) (M3 : zM) => zck (zbo w2) (zI w2 M3)) (fun (k2 : Int32 → zM → zO) => zjo (fun  (M2 : zM) => k2 0 M2) (fun (k3 : zM → zO) => zit ((M1 (zgr t 8) (zix v1)) = (M1 (zgr t 8) (zix v2))) (zit (v4 ≤ v3) (k3 M1) (zit (v5 ≤ v3) (k3 M1) (k2 1 M1))) (k3 M1))))))))))))) (fun (k1 : Int32 → zM → zO) => zit ((M (zgr t 7) (zix v1)) ≤ (M (zgr t 7) (zix v2))) (zck (zin v2 8) (k1 (M (zgr t 7) (zix v2)) M)) (zck (zin v1 8) (k1 (M (zgr t 7) (zix v1)) M))))))))))
  refine ev_aload_n dd_X12_lie_0 0 rfl ?_
  refine ev_getR gf_RX12_87 dd_X12_lie_1 ht (by decide) ?_
  refine ev_iload_n dd_X12_lie_4 1 rfl ?_
  refine ev_lv (lv' := [(0, .ref (G.2.1 + t)), (2, .int a2), (3, .int a3)]) [0, 2, 3] rfl ?_
  refine ev_iald dd_X12_lie_5 ((zg_12_47 ht).1) ((zg_12_47 ht).2) ?_
  refine ev_topi (fun v1 => ?_)
  refine ev_istore (i := 4) (lv' := [(0, .ref (G.2.1 + t)), (2, .int a2), (3, .int a3), (4, .int v1)]) [1, 2, 3, 0] dd_X12_lie_6 (by decide) rfl ?_
  refine ev_aload_n dd_X12_lie_8 0 rfl ?_
  refine ev_getR gf_RX12_87 dd_X12_lie_9 ht (by decide) ?_
  refine ev_iload_n dd_X12_lie_12 1 rfl ?_
  refine ev_lv (lv' := [(0, .ref (G.2.1 + t)), (3, .int a3), (4, .int v1)]) [0, 2, 3] rfl ?_
  refine ev_iald dd_X12_lie_13 ((zg_12_47 ht).1) ((zg_12_47 ht).2) ?_
  refine ev_topi (fun v2 => ?_)
  refine ev_istore (i := 5) (lv' := [(0, .ref (G.2.1 + t)), (3, .int a3), (4, .int v1), (5, .int v2)]) [1, 2, 3, 0] dd_X12_lie_14 (by decide) rfl ?_
  refine ev_aload_n dd_X12_lie_16 0 rfl ?_
  refine ev_getR gf_RX12_23 dd_X12_lie_17 ht (by decide) ?_
  refine ev_iload dd_X12_lie_20 2 rfl ?_
  refine ev_iald dd_X12_lie_22 ((zg_12_7 ht).1) ((zg_12_7 ht).2) ?_
  refine ev_aload_n dd_X12_lie_23 0 rfl ?_
  refine ev_getR gf_RX12_23 dd_X12_lie_24 ht (by decide) ?_
  refine ev_iload dd_X12_lie_27 3 rfl ?_
  refine ev_iald dd_X12_lie_29 ((zg_12_7 ht).1) ((zg_12_7 ht).2) ?_
  refine ev_jo (fun (k1 : Int32 → zM → zO) => ∀ (w1 : Int32) (M1 : zM), zEv l G Y_X12_lie 1 0 50 [(0, .ref (G.2.1 + t)), (3, .int a3), (4, .int v1), (5, .int v2)] [.int w1] M1 (k1 w1 M1)) ?_ (fun k1 hk1 => ?_)
  · intro w1 M1
    refine ev_iload_n dd_X12_lie_50 1 rfl ?_
    refine ev_iadd dd_X12_lie_51 ?_
    refine ev_topi (fun v3 => ?_)
    refine ev_istore (i := 6) (lv' := [(0, .ref (G.2.1 + t)), (3, .int a3), (4, .int v1), (5, .int v2), (6, .int v3)]) [1, 2, 3, 4, 0] dd_X12_lie_52 (by decide) rfl ?_
    refine ev_aload_n dd_X12_lie_54 0 rfl ?_
    refine ev_getR gf_RX12_23 dd_X12_lie_55 ht (by decide) ?_
    refine ev_iload dd_X12_lie_58 2 rfl ?_
    refine ev_iald dd_X12_lie_60 ((zg_12_7 ht).1) ((zg_12_7 ht).2) ?_
    refine ev_aload_n dd_X12_lie_61 0 rfl ?_
    refine ev_getR gf_RX12_20 dd_X12_lie_62 ht (by decide) ?_
    refine ev_iload dd_X12_lie_65 2 rfl ?_
    refine ev_iald dd_X12_lie_67 ((zg_12_6 ht).1) ((zg_12_6 ht).2) ?_
    refine ev_iadd dd_X12_lie_68 ?_
    refine ev_iload_n dd_X12_lie_69 1 rfl ?_
    refine ev_isub dd_X12_lie_70 ?_
    refine ev_topi (fun v4 => ?_)
    refine ev_istore (i := 7) (lv' := [(0, .ref (G.2.1 + t)), (3, .int a3), (4, .int v1), (5, .int v2), (6, .int v3), (7, .int v4)]) [1, 2, 3, 4, 5, 0] dd_X12_lie_71 (by decide) rfl ?_
    refine ev_aload_n dd_X12_lie_73 0 rfl ?_
    refine ev_getR gf_RX12_23 dd_X12_lie_74 ht (by decide) ?_
    refine ev_iload dd_X12_lie_77 3 rfl ?_
    refine ev_iald dd_X12_lie_79 ((zg_12_7 ht).1) ((zg_12_7 ht).2) ?_
    refine ev_aload_n dd_X12_lie_80 0 rfl ?_
    refine ev_getR gf_RX12_20 dd_X12_lie_81 ht (by decide) ?_
    refine ev_iload dd_X12_lie_84 3 rfl ?_
    refine ev_iald dd_X12_lie_86 ((zg_12_6 ht).1) ((zg_12_6 ht).2) ?_
    refine ev_iadd dd_X12_lie_87 ?_
    refine ev_iload_n dd_X12_lie_88 1 rfl ?_
    refine ev_lv (lv' := [(0, .ref (G.2.1 + t)), (4, .int v1), (5, .int v2), (6, .int v3), (7, .int v4)]) [0, 2, 3, 4, 5] rfl ?_
    refine ev_isub dd_X12_lie_89 ?_
    refine ev_topi (fun v5 => ?_)
    refine ev_istore (i := 8) (lv' := [(0, .ref (G.2.1 + t)), (4, .int v1), (5, .int v2), (6, .int v3), (7, .int v4), (8, .int v5)]) [1, 2, 3, 4, 5, 0] dd_X12_lie_90 (by decide) rfl ?_
    refine ev_aload_n dd_X12_lie_92 0 rfl ?_
    refine ev_getR gf_RX12_26 dd_X12_lie_93 ht (by decide) ?_
    refine ev_iload dd_X12_lie_96 1 rfl ?_
    refine ev_lv (lv' := [(0, .ref (G.2.1 + t)), (5, .int v2), (6, .int v3), (7, .int v4), (8, .int v5)]) [0, 2, 3, 4, 5] rfl ?_
    refine ev_iald dd_X12_lie_98 ((zg_12_8 ht).1) ((zg_12_8 ht).2) ?_
    refine ev_aload_n dd_X12_lie_99 0 rfl ?_
    refine ev_lv (lv' := [(5, .int v2), (6, .int v3), (7, .int v4), (8, .int v5)]) [1, 2, 3, 4] rfl ?_
    refine ev_getR gf_RX12_26 dd_X12_lie_100 ht (by decide) ?_
    refine ev_iload dd_X12_lie_103 0 rfl ?_
    refine ev_lv (lv' := [(6, .int v3), (7, .int v4), (8, .int v5)]) [1, 2, 3] rfl ?_
    refine ev_iald dd_X12_lie_105 ((zg_12_8 ht).1) ((zg_12_8 ht).2) ?_
    refine ev_jo (fun (k2 : Int32 → zM → zO) => ∀ (w2 : Int32) (M3 : zM), zEv l G Y_X12_lie 1 0 128 [] [.int w2] M3 (k2 w2 M3)) ?_ (fun k2 hk2 => ?_)
    · intro w2 M3
      exact ev_zret dd_X12_lie_128 rfl (Nat.le_of_ble_eq_true rfl) rfl
    · refine ev_jo (fun (k3 : zM → zO) => ∀  (M2 : zM), zEv l G Y_X12_lie 1 0 127 [] [] M2 (k3 M2)) ?_ (fun k3 hk3 => ?_)
      · intro M2
        refine ev_iconst (v := 0) dd_X12_lie_127 (by decide) ?_
        exact hk2 _ _
      · refine ev_icmp_ne 127 dd_X12_lie_106 (by decide) ?_ ?_
        · refine ev_lv (lv' := []) [] rfl ?_
          exact hk3 _
        · refine ev_iload dd_X12_lie_109 0 rfl ?_
          refine ev_iload dd_X12_lie_111 1 rfl ?_
          refine ev_lv (lv' := [(6, .int v3), (8, .int v5)]) [0, 2] rfl ?_
          refine ev_icmp_ge 127 dd_X12_lie_113 (by decide) ?_ ?_
          · refine ev_lv (lv' := []) [] rfl ?_
            exact hk3 _
          · refine ev_iload dd_X12_lie_116 0 rfl ?_
            refine ev_lv (lv' := [(8, .int v5)]) [1] rfl ?_
            refine ev_iload dd_X12_lie_118 0 rfl ?_
            refine ev_lv (lv' := []) [] rfl ?_
            refine ev_icmp_ge 127 dd_X12_lie_120 (by decide) ?_ ?_
            · exact hk3 _
            · refine ev_iconst (v := 1) dd_X12_lie_123 (by decide) ?_
              refine ev_goto 128 dd_X12_lie_124 (by decide) ?_
              exact hk2 _ _
  · refine ev_icmp_le 43 dd_X12_lie_30 (by decide) ?_ ?_
    · refine ev_aload_n dd_X12_lie_43 0 rfl ?_
      refine ev_getR gf_RX12_23 dd_X12_lie_44 ht (by decide) ?_
      refine ev_iload dd_X12_lie_47 3 rfl ?_
      refine ev_iald dd_X12_lie_49 ((zg_12_7 ht).1) ((zg_12_7 ht).2) ?_
      exact hk1 _ _
    · refine ev_aload_n dd_X12_lie_33 0 rfl ?_
      refine ev_getR gf_RX12_23 dd_X12_lie_34 ht (by decide) ?_
      refine ev_iload dd_X12_lie_37 2 rfl ?_
      refine ev_iald dd_X12_lie_39 ((zg_12_7 ht).1) ((zg_12_7 ht).2) ?_
      refine ev_goto 50 dd_X12_lie_40 (by decide) ?_
      exact hk1 _ _
/-! X12_lies -/
theorem dd_X12_lies_0 : decode Y_X12_lies.2.1 0 = .ok (.aload_n 0, 1) := by decide +kernel
theorem dd_X12_lies_1 : decode Y_X12_lies.2.1 1 = .ok (.iconst 0, 1) := by decide +kernel
theorem dd_X12_lies_2 : decode Y_X12_lies.2.1 2 = .ok (.putfield 153, 3) := by decide +kernel
theorem dd_X12_lies_5 : decode Y_X12_lies.2.1 5 = .ok (.aload_n 0, 1) := by decide +kernel
theorem dd_X12_lies_6 : decode Y_X12_lies.2.1 6 = .ok (.iload_n 1, 1) := by decide +kernel
theorem dd_X12_lies_7 : decode Y_X12_lies.2.1 7 = .ok (.iload_n 2, 1) := by decide +kernel
theorem dd_X12_lies_8 : decode Y_X12_lies.2.1 8 = .ok (.invokevirtual 357, 3) := by decide +kernel
theorem dd_X12_lies_11 : decode Y_X12_lies.2.1 11 = .ok (.ifCond .ne 5, 3) := by decide +kernel
theorem dd_X12_lies_14 : decode Y_X12_lies.2.1 14 = .ok (.iconst 0, 1) := by decide +kernel
theorem dd_X12_lies_15 : decode Y_X12_lies.2.1 15 = .ok (.ireturn, 1) := by decide +kernel
theorem dd_X12_lies_16 : decode Y_X12_lies.2.1 16 = .ok (.bipush 9, 2) := by decide +kernel
theorem dd_X12_lies_18 : decode Y_X12_lies.2.1 18 = .ok (.istore_n 3, 1) := by decide +kernel
theorem dd_X12_lies_19 : decode Y_X12_lies.2.1 19 = .ok (.iload_n 3, 1) := by decide +kernel
theorem dd_X12_lies_20 : decode Y_X12_lies.2.1 20 = .ok (.ifCond .lt 21, 3) := by decide +kernel
theorem dd_X12_lies_23 : decode Y_X12_lies.2.1 23 = .ok (.aload_n 0, 1) := by decide +kernel
theorem dd_X12_lies_24 : decode Y_X12_lies.2.1 24 = .ok (.iload_n 1, 1) := by decide +kernel
theorem dd_X12_lies_25 : decode Y_X12_lies.2.1 25 = .ok (.iload_n 2, 1) := by decide +kernel
theorem dd_X12_lies_26 : decode Y_X12_lies.2.1 26 = .ok (.iload_n 3, 1) := by decide +kernel
theorem dd_X12_lies_27 : decode Y_X12_lies.2.1 27 = .ok (.invokevirtual 447, 3) := by decide +kernel
theorem dd_X12_lies_30 : decode Y_X12_lies.2.1 30 = .ok (.ifCond .eq 5, 3) := by decide +kernel
theorem dd_X12_lies_33 : decode Y_X12_lies.2.1 33 = .ok (.iload_n 3, 1) := by decide +kernel
theorem dd_X12_lies_34 : decode Y_X12_lies.2.1 34 = .ok (.ireturn, 1) := by decide +kernel
theorem dd_X12_lies_35 : decode Y_X12_lies.2.1 35 = .ok (.iinc 3 (-1), 3) := by decide +kernel
theorem dd_X12_lies_38 : decode Y_X12_lies.2.1 38 = .ok (.goto (-19), 3) := by decide +kernel
theorem dd_X12_lies_41 : decode Y_X12_lies.2.1 41 = .ok (.iconst (-1), 1) := by decide +kernel
theorem dd_X12_lies_42 : decode Y_X12_lies.2.1 42 = .ok (.ireturn, 1) := by decide +kernel
def F_X12_lies_L19 (x0 : Nat) (x1 : Int32) (x2 : Int32) (K41 : zM → zO) : Nat → Int32 → zM → zO
  | 0, _, _ => none
  | n + 1, x3, M => zit (x3 < 0) (K41 M) (zbI (F_X12_lie x0 x1 x2 x3 M) (fun r2 M3 => zit (r2 = 0) (F_X12_lies_L19 x0 x1 x2 K41 n (x3 + (-1)) M3) (zI x3 M3)))
def F_X12_lies (t : Nat) (a1 : Int32) (a2 : Int32) (M : zM) : zO := zst (zup M t 0 0) (fun M1 => zbI (F_X12_areTwo t a1 a2 M1) (fun r1 M2 => zit (r1 = 0) (zI 0 M2) (F_X12_lies_L19 t a1 a2 (fun  (M4 : zM) => zI (-1) M4) zN 9 M2)))
set_option maxHeartbeats 1000000 in
set_option maxRecDepth 20000 in
theorem ct_X12_lies_L19 (l : Launch) (hl : l.stackTraces = false) (G : zG) (x0 : Nat) (hx0 : zsh x0 = 12) (x1 : Int32) (x2 : Int32) (K41 : zM → zO) (hK41 : ∀  (M : zM), zEv l G Y_X12_lies 4 0 41 [] [] M (K41 M)) : ∀ (n : Nat) (x3 : Int32) (M : zM), zEv l G Y_X12_lies 4 0 19 [(0, .ref (G.2.1 + x0)), (1, .int x1), (2, .int x2), (3, .int x3)] [] M (F_X12_lies_L19 x0 x1 x2 K41 n x3 M) := by
  intro n
  induction n with
  | zero => intro x3 M; exact ev_none
  | succ n ih =>
    intro x3 M
    show zEv l G Y_X12_lies 4 0 19 [(0, .ref (G.2.1 + x0)), (1, .int x1), (2, .int x2), (3, .int x3)] [] M (zit (x3 < 0) (K41 M) (zbI (F_X12_lie x0 x1 x2 x3 M) (fun r2 M3 => zit (r2 = 0) (F_X12_lies_L19 x0 x1 x2 K41 n (x3 + (-1)) M3) (zI x3 M3))))
    refine ev_iload_n dd_X12_lies_19 3 rfl ?_
    refine ev_if_lt 41 dd_X12_lies_20 (by decide) ?_ ?_
    · refine ev_lv (lv' := []) [] rfl ?_
      exact hK41 _
    · refine ev_aload_n dd_X12_lies_23 0 rfl ?_
      refine ev_iload_n dd_X12_lies_24 1 rfl ?_
      refine ev_iload_n dd_X12_lies_25 2 rfl ?_
      refine ev_iload_n dd_X12_lies_26 3 rfl ?_
      refine ev_callVI (As := [.int x1, .int x2, .int x3]) cl_RX12_447 (ct_X12_lie l hl G x0 hx0 x1 x2 x3 M) dd_X12_lies_27 hx0 (by decide) (Nat.le_of_ble_eq_true rfl) (Nat.le_of_ble_eq_true rfl) rfl rfl (fun r2 M3 => ?_)
      refine ev_if_eq 35 dd_X12_lies_30 (by decide) ?_ ?_
      · refine ev_iinc (j := 3) (v := (-1)) (lv' := [(0, .ref (G.2.1 + x0)), (1, .int x1), (2, .int x2), (3, .int (x3 + (-1)))]) [1, 2, 3, 0] dd_X12_lies_35 rfl (by decide) (by decide) rfl ?_
        refine ev_goto 19 dd_X12_lies_38 (by decide) ?_
        exact ih _ _
      · refine ev_lv (lv' := [(3, .int x3)]) [3] rfl ?_
        refine ev_iload_n dd_X12_lies_33 0 rfl ?_
        refine ev_lv (lv' := []) [] rfl ?_
        exact ev_iret dd_X12_lies_34 rfl (Nat.le_of_ble_eq_true rfl) rfl
set_option maxHeartbeats 1000000 in
set_option maxRecDepth 20000 in
theorem ct_X12_lies (l : Launch) (hl : l.stackTraces = false) (G : zG) (t : Nat) (ht : zsh t = 12) (a1 : Int32) (a2 : Int32) (M : zM) : zMt l G Y_X12_lies 4 [.ref (G.2.1 + t), .int a1, .int a2] M (F_X12_lies t a1 a2 M) := by
  refine zMt_of (by decide +kernel) (Nat.le_of_ble_eq_true rfl) ?_
  show zEv l G Y_X12_lies 4 0 0 [(0, .ref (G.2.1 + t)), (1, .int a1), (2, .int a2)] [] M (zst (zup M t 0 0) (fun M1 => zbI (F_X12_areTwo t a1 a2 M1) (fun r1 M2 => zit (r1 = 0) (zI 0 M2) (F_X12_lies_L19 t a1 a2 (fun  (M4 : zM) => zI (-1) M4) zN 9 M2))))
  refine ev_aload_n dd_X12_lies_0 0 rfl ?_
  refine ev_iconst (v := 0) dd_X12_lies_1 (by decide) ?_
  refine ev_putI gw_RX12_153 dd_X12_lies_2 ht (by decide) ?_
  refine ev_st (fun M1 => ?_)
  refine ev_aload_n dd_X12_lies_5 0 rfl ?_
  refine ev_iload_n dd_X12_lies_6 1 rfl ?_
  refine ev_iload_n dd_X12_lies_7 2 rfl ?_
  refine ev_callVI (As := [.int a1, .int a2]) cl_RX12_357 (ct_X12_areTwo l hl G t ht a1 a2 M1) dd_X12_lies_8 ht (by decide) (Nat.le_of_ble_eq_true rfl) (Nat.le_of_ble_eq_true rfl) rfl rfl (fun r1 M2 => ?_)
  refine ev_if_ne 16 dd_X12_lies_11 (by decide) ?_ ?_
  · refine ev_bipush (v := 9) dd_X12_lies_16 (by decide) ?_
    refine ev_istore_n (i := 3) (lv' := [(0, .ref (G.2.1 + t)), (1, .int a1), (2, .int a2), (3, .int 9)]) [1, 2, 3, 0] dd_X12_lies_18 rfl (by decide) rfl ?_
    refine ct_X12_lies_L19 l hl G t ht a1 a2 _ (fun M4 => ?_) zN _ _
    refine ev_iconst (v := (-1)) dd_X12_lies_41 (by decide) ?_
    exact ev_iret dd_X12_lies_42 rfl (Nat.le_of_ble_eq_true rfl) rfl
  · refine ev_lv (lv' := []) [] rfl ?_
    refine ev_iconst (v := 0) dd_X12_lies_14 (by decide) ?_
    exact ev_iret dd_X12_lies_15 rfl (Nat.le_of_ble_eq_true rfl) rfl
/-! X12_need -/
theorem dd_X12_need_0 : decode Y_X12_need.2.1 0 = .ok (.aload_n 0, 1) := by decide +kernel
theorem dd_X12_need_1 : decode Y_X12_need.2.1 1 = .ok (.invokevirtual 212, 3) := by decide +kernel
theorem dd_X12_need_4 : decode Y_X12_need.2.1 4 = .ok (.ifCond .ne 4, 3) := by decide +kernel
theorem dd_X12_need_7 : decode Y_X12_need.2.1 7 = .ok (.return_, 1) := by decide +kernel
theorem dd_X12_need_8 : decode Y_X12_need.2.1 8 = .ok (.iload_n 1, 1) := by decide +kernel
theorem dd_X12_need_9 : decode Y_X12_need.2.1 9 = .ok (.ifCond .eq 10, 3) := by decide +kernel
theorem dd_X12_need_12 : decode Y_X12_need.2.1 12 = .ok (.aload_n 0, 1) := by decide +kernel
theorem dd_X12_need_13 : decode Y_X12_need.2.1 13 = .ok (.invokevirtual 216, 3) := by decide +kernel
theorem dd_X12_need_16 : decode Y_X12_need.2.1 16 = .ok (.goto 8, 3) := by decide +kernel
theorem dd_X12_need_19 : decode Y_X12_need.2.1 19 = .ok (.aload_n 0, 1) := by decide +kernel
theorem dd_X12_need_20 : decode Y_X12_need.2.1 20 = .ok (.iconst 1, 1) := by decide +kernel
theorem dd_X12_need_21 : decode Y_X12_need.2.1 21 = .ok (.invokevirtual 219, 3) := by decide +kernel
theorem dd_X12_need_24 : decode Y_X12_need.2.1 24 = .ok (.return_, 1) := by decide +kernel
def F_X12_need (t : Nat) (a1 : Int32) (M : zM) : zO := zbI (F_X12_isGood t M) (fun r1 M1 => zit (r1 = 0) (zV M1) (zjo (fun  (M4 : zM) => zV M4) (fun (k1 : zM → zO) => zit (a1 = 0) (zbV (F_X12_wrong t 1 M1) (fun M2 => k1 M2)) (zbV (F_X12_goes t M1) (fun M3 => k1 M3)))))
set_option maxHeartbeats 1000000 in
set_option maxRecDepth 20000 in
theorem ct_X12_need (l : Launch) (hl : l.stackTraces = false) (G : zG) (t : Nat) (ht : zsh t = 12) (a1 : Int32) (M : zM) : zMt l G Y_X12_need 3 [.ref (G.2.1 + t), .int a1] M (F_X12_need t a1 M) := by
  refine zMt_of (by decide +kernel) (Nat.le_of_ble_eq_true rfl) ?_
  show zEv l G Y_X12_need 3 0 0 [(0, .ref (G.2.1 + t)), (1, .int a1)] [] M (zbI (F_X12_isGood t M) (fun r1 M1 => zit (r1 = 0) (zV M1) (zjo (fun  (M4 : zM) => zV M4) (fun (k1 : zM → zO) => zit (a1 = 0) (zbV (F_X12_wrong t 1 M1) (fun M2 => k1 M2)) (zbV (F_X12_goes t M1) (fun M3 => k1 M3))))))
  refine ev_aload_n dd_X12_need_0 0 rfl ?_
  refine ev_callVI (As := []) cl_RX12_212 (ct_X12_isGood l hl G t ht M) dd_X12_need_1 ht (by decide) (Nat.le_of_ble_eq_true rfl) (Nat.le_of_ble_eq_true rfl) rfl rfl (fun r1 M1 => ?_)
  refine ev_if_ne 8 dd_X12_need_4 (by decide) ?_ ?_
  · refine ev_iload_n dd_X12_need_8 1 rfl ?_
    refine ev_lv (lv' := [(0, .ref (G.2.1 + t))]) [0] rfl ?_
    refine ev_jo (fun (k1 : zM → zO) => ∀  (M4 : zM), zEv l G Y_X12_need 3 0 24 [] [] M4 (k1 M4)) ?_ (fun k1 hk1 => ?_)
    · intro M4
      exact ev_vret dd_X12_need_24 rfl (Nat.le_of_ble_eq_true rfl) rfl
    · refine ev_if_eq 19 dd_X12_need_9 (by decide) ?_ ?_
      · refine ev_aload_n dd_X12_need_19 0 rfl ?_
        refine ev_lv (lv' := []) [] rfl ?_
        refine ev_iconst (v := 1) dd_X12_need_20 (by decide) ?_
        refine ev_callVV (As := [.int 1]) cl_RX12_219 (ct_X12_wrong l hl G t ht 1 M1) dd_X12_need_21 ht (by decide) (Nat.le_of_ble_eq_true rfl) (Nat.le_of_ble_eq_true rfl) rfl rfl (fun M2 => ?_)
        exact hk1 _
      · refine ev_aload_n dd_X12_need_12 0 rfl ?_
        refine ev_lv (lv' := []) [] rfl ?_
        refine ev_callVV (As := []) cl_RX12_216 (ct_X12_goes l hl G t ht M1) dd_X12_need_13 ht (by decide) (Nat.le_of_ble_eq_true rfl) (Nat.le_of_ble_eq_true rfl) rfl rfl (fun M3 => ?_)
        refine ev_goto 24 dd_X12_need_16 (by decide) ?_
        exact hk1 _
  · refine ev_lv (lv' := []) [] rfl ?_
    exact ev_vret dd_X12_need_7 rfl (Nat.le_of_ble_eq_true rfl) rfl
/-! X12_number -/
theorem dd_X12_number_0 : decode Y_X12_number.2.1 0 = .ok (.aload_n 0, 1) := by decide +kernel
theorem dd_X12_number_1 : decode Y_X12_number.2.1 1 = .ok (.invokevirtual 212, 3) := by decide +kernel
theorem dd_X12_number_4 : decode Y_X12_number.2.1 4 = .ok (.ifCond .ne 5, 3) := by decide +kernel
theorem dd_X12_number_7 : decode Y_X12_number.2.1 7 = .ok (.iconst 0, 1) := by decide +kernel
theorem dd_X12_number_8 : decode Y_X12_number.2.1 8 = .ok (.ireturn, 1) := by decide +kernel
theorem dd_X12_number_9 : decode Y_X12_number.2.1 9 = .ok (.aload_n 0, 1) := by decide +kernel
theorem dd_X12_number_10 : decode Y_X12_number.2.1 10 = .ok (.getfield 186, 3) := by decide +kernel
theorem dd_X12_number_13 : decode Y_X12_number.2.1 13 = .ok (.iconst 2, 1) := by decide +kernel
theorem dd_X12_number_14 : decode Y_X12_number.2.1 14 = .ok (.if_icmp .eq 11, 3) := by decide +kernel
theorem dd_X12_number_17 : decode Y_X12_number.2.1 17 = .ok (.aload_n 0, 1) := by decide +kernel
theorem dd_X12_number_18 : decode Y_X12_number.2.1 18 = .ok (.iconst 1, 1) := by decide +kernel
theorem dd_X12_number_19 : decode Y_X12_number.2.1 19 = .ok (.invokevirtual 219, 3) := by decide +kernel
theorem dd_X12_number_22 : decode Y_X12_number.2.1 22 = .ok (.goto 32, 3) := by decide +kernel
theorem dd_X12_number_25 : decode Y_X12_number.2.1 25 = .ok (.aload_n 0, 1) := by decide +kernel
theorem dd_X12_number_26 : decode Y_X12_number.2.1 26 = .ok (.getfield 196, 3) := by decide +kernel
theorem dd_X12_number_29 : decode Y_X12_number.2.1 29 = .ok (.iconst 4, 1) := by decide +kernel
theorem dd_X12_number_30 : decode Y_X12_number.2.1 30 = .ok (.if_icmp .gt 19, 3) := by decide +kernel
theorem dd_X12_number_33 : decode Y_X12_number.2.1 33 = .ok (.aload_n 0, 1) := by decide +kernel
theorem dd_X12_number_34 : decode Y_X12_number.2.1 34 = .ok (.getfield 180, 3) := by decide +kernel
theorem dd_X12_number_37 : decode Y_X12_number.2.1 37 = .ok (.iload_n 1, 1) := by decide +kernel
theorem dd_X12_number_38 : decode Y_X12_number.2.1 38 = .ok (.if_icmp .lt 11, 3) := by decide +kernel
theorem dd_X12_number_41 : decode Y_X12_number.2.1 41 = .ok (.aload_n 0, 1) := by decide +kernel
theorem dd_X12_number_42 : decode Y_X12_number.2.1 42 = .ok (.getfield 180, 3) := by decide +kernel
theorem dd_X12_number_45 : decode Y_X12_number.2.1 45 = .ok (.iload_n 2, 1) := by decide +kernel
theorem dd_X12_number_46 : decode Y_X12_number.2.1 46 = .ok (.if_icmp .le 8, 3) := by decide +kernel
theorem dd_X12_number_49 : decode Y_X12_number.2.1 49 = .ok (.aload_n 0, 1) := by decide +kernel
theorem dd_X12_number_50 : decode Y_X12_number.2.1 50 = .ok (.iconst 2, 1) := by decide +kernel
theorem dd_X12_number_51 : decode Y_X12_number.2.1 51 = .ok (.invokevirtual 219, 3) := by decide +kernel
theorem dd_X12_number_54 : decode Y_X12_number.2.1 54 = .ok (.aload_n 0, 1) := by decide +kernel
theorem dd_X12_number_55 : decode Y_X12_number.2.1 55 = .ok (.getfield 180, 3) := by decide +kernel
theorem dd_X12_number_58 : decode Y_X12_number.2.1 58 = .ok (.istore_n 3, 1) := by decide +kernel
theorem dd_X12_number_59 : decode Y_X12_number.2.1 59 = .ok (.aload_n 0, 1) := by decide +kernel
theorem dd_X12_number_60 : decode Y_X12_number.2.1 60 = .ok (.invokevirtual 212, 3) := by decide +kernel
theorem dd_X12_number_63 : decode Y_X12_number.2.1 63 = .ok (.ifCond .eq 7, 3) := by decide +kernel
theorem dd_X12_number_66 : decode Y_X12_number.2.1 66 = .ok (.aload_n 0, 1) := by decide +kernel
theorem dd_X12_number_67 : decode Y_X12_number.2.1 67 = .ok (.invokevirtual 216, 3) := by decide +kernel
theorem dd_X12_number_70 : decode Y_X12_number.2.1 70 = .ok (.iload_n 3, 1) := by decide +kernel
theorem dd_X12_number_71 : decode Y_X12_number.2.1 71 = .ok (.ireturn, 1) := by decide +kernel
def F_X12_number (t : Nat) (a1 : Int32) (a2 : Int32) (M : zM) : zO := zbI (F_X12_isGood t M) (fun r1 M1 => zit (r1 = 0) (zI 0 M1) (zjo (fun  (M5 : zM) => zlt (M5 t 24) (fun v1 => zbI (F_X12_isGood t M5) (fun r2 M6 => zjo (fun  (M8 : zM) => zI v1 M8) (fun (k3 : zM → zO) => zit (r2 = 0) (k3 M6) (zbV (F_X12_goes t M6) (fun M7 => k3 M7)))))) (fun (k1 : zM → zO) => zit ((M1 t 21) = 2) (zjo (fun  (M2 : zM) => zbV (F_X12_wrong t 2 M2) (fun M3 => k1 M3)) (fun (k2 : zM → zO) => zit (4 < (M1 t 23)) (k2 M1) (zit ((M1 t 24) < a1) (k2 M1) (zit ((M1 t 24) ≤ a2) (k1 M1) (k2 M1))))) (zbV (F_X12_wrong t 1 M1) (fun M4 => k1 M4)))))
set_option maxHeartbeats 1000000 in
set_option maxRecDepth 20000 in
theorem ct_X12_number (l : Launch) (hl : l.stackTraces = false) (G : zG) (t : Nat) (ht : zsh t = 12) (a1 : Int32) (a2 : Int32) (M : zM) : zMt l G Y_X12_number 3 [.ref (G.2.1 + t), .int a1, .int a2] M (F_X12_number t a1 a2 M) := by
  refine zMt_of (by decide +kernel) (Nat.le_of_ble_eq_true rfl) ?_
  show zEv l G Y_X12_number 3 0 0 [(0, .ref (G.2.1 + t)), (1, .int a1), (2, .int a2)] [] M (zbI (F_X12_isGood t M) (fun r1 M1 => zit (r1 = 0) (zI 0 M1) (zjo (fun  (M5 : zM) => zlt (M5 t 24) (fun v1 => zbI (F_X12_isGood t M5) (fun r2 M6 => zjo (fun  (M8 : zM) => zI v1 M8) (fun (k3 : zM → zO) => zit (r2 = 0) (k3 M6) (zbV (F_X12_goes t M6) (fun M7 => k3 M7)))))) (fun (k1 : zM → zO) => zit ((M1 t 21) = 2) (zjo (fun  (M2 : zM) => zbV (F_X12_wrong t 2 M2) (fun M3 => k1 M3)) (fun (k2 : zM → zO) => zit (4 < (M1 t 23)) (k2 M1) (zit ((M1 t 24) < a1) (k2 M1) (zit ((M1 t 24) ≤ a2) (k1 M1) (k2 M1))))) (zbV (F_X12_wrong t 1 M1) (fun M4 => k1 M4))))))
  refine ev_aload_n dd_X12_number_0 0 rfl ?_
  refine ev_callVI (As := []) cl_RX12_212 (ct_X12_isGood l hl G t ht M) dd_X12_number_1 ht (by decide) (Nat.le_of_ble_eq_true rfl) (Nat.le_of_ble_eq_true rfl) rfl rfl (fun r1 M1 => ?_)
  refine ev_if_ne 9 dd_X12_number_4 (by decide) ?_ ?_
  · refine ev_aload_n dd_X12_number_9 0 rfl ?_
    refine ev_getI gf_RX12_186 dd_X12_number_10 ht (by decide) ?_
    refine ev_iconst (v := 2) dd_X12_number_13 (by decide) ?_
    refine ev_jo (fun (k1 : zM → zO) => ∀  (M5 : zM), zEv l G Y_X12_number 3 0 54 [(0, .ref (G.2.1 + t))] [] M5 (k1 M5)) ?_ (fun k1 hk1 => ?_)
    · intro M5
      refine ev_aload_n dd_X12_number_54 0 rfl ?_
      refine ev_getI gf_RX12_180 dd_X12_number_55 ht (by decide) ?_
      refine ev_topi (fun v1 => ?_)
      refine ev_istore_n (i := 3) (lv' := [(0, .ref (G.2.1 + t)), (3, .int v1)]) [1, 0] dd_X12_number_58 rfl (by decide) rfl ?_
      refine ev_aload_n dd_X12_number_59 0 rfl ?_
      refine ev_callVI (As := []) cl_RX12_212 (ct_X12_isGood l hl G t ht M5) dd_X12_number_60 ht (by decide) (Nat.le_of_ble_eq_true rfl) (Nat.le_of_ble_eq_true rfl) rfl rfl (fun r2 M6 => ?_)
      refine ev_jo (fun (k3 : zM → zO) => ∀  (M8 : zM), zEv l G Y_X12_number 3 0 70 [(3, .int v1)] [] M8 (k3 M8)) ?_ (fun k3 hk3 => ?_)
      · intro M8
        refine ev_iload_n dd_X12_number_70 0 rfl ?_
        refine ev_lv (lv' := []) [] rfl ?_
        exact ev_iret dd_X12_number_71 rfl (Nat.le_of_ble_eq_true rfl) rfl
      · refine ev_if_eq 70 dd_X12_number_63 (by decide) ?_ ?_
        · refine ev_lv (lv' := [(3, .int v1)]) [1] rfl ?_
          exact hk3 _
        · refine ev_aload_n dd_X12_number_66 0 rfl ?_
          refine ev_lv (lv' := [(3, .int v1)]) [1] rfl ?_
          refine ev_callVV (As := []) cl_RX12_216 (ct_X12_goes l hl G t ht M6) dd_X12_number_67 ht (by decide) (Nat.le_of_ble_eq_true rfl) (Nat.le_of_ble_eq_true rfl) rfl rfl (fun M7 => ?_)
          exact hk3 _
    · refine ev_icmp_eq 25 dd_X12_number_14 (by decide) ?_ ?_
      · refine ev_aload_n dd_X12_number_25 0 rfl ?_
        refine ev_getI gf_RX12_196 dd_X12_number_26 ht (by decide) ?_
        refine ev_iconst (v := 4) dd_X12_number_29 (by decide) ?_
        refine ev_jo (fun (k2 : zM → zO) => ∀  (M2 : zM), zEv l G Y_X12_number 3 0 49 [(0, .ref (G.2.1 + t))] [] M2 (k2 M2)) ?_ (fun k2 hk2 => ?_)
        · intro M2
          refine ev_aload_n dd_X12_number_49 0 rfl ?_
          refine ev_iconst (v := 2) dd_X12_number_50 (by decide) ?_
          refine ev_callVV (As := [.int 2]) cl_RX12_219 (ct_X12_wrong l hl G t ht 2 M2) dd_X12_number_51 ht (by decide) (Nat.le_of_ble_eq_true rfl) (Nat.le_of_ble_eq_true rfl) rfl rfl (fun M3 => ?_)
          exact hk1 _
        · refine ev_icmp_gt 49 dd_X12_number_30 (by decide) ?_ ?_
          · refine ev_lv (lv' := [(0, .ref (G.2.1 + t))]) [0] rfl ?_
            exact hk2 _
          · refine ev_aload_n dd_X12_number_33 0 rfl ?_
            refine ev_getI gf_RX12_180 dd_X12_number_34 ht (by decide) ?_
            refine ev_iload_n dd_X12_number_37 1 rfl ?_
            refine ev_lv (lv' := [(0, .ref (G.2.1 + t)), (2, .int a2)]) [0, 2] rfl ?_
            refine ev_icmp_lt 49 dd_X12_number_38 (by decide) ?_ ?_
            · refine ev_lv (lv' := [(0, .ref (G.2.1 + t))]) [0] rfl ?_
              exact hk2 _
            · refine ev_aload_n dd_X12_number_41 0 rfl ?_
              refine ev_getI gf_RX12_180 dd_X12_number_42 ht (by decide) ?_
              refine ev_iload_n dd_X12_number_45 1 rfl ?_
              refine ev_lv (lv' := [(0, .ref (G.2.1 + t))]) [0] rfl ?_
              refine ev_icmp_le 54 dd_X12_number_46 (by decide) ?_ ?_
              · exact hk1 _
              · exact hk2 _
      · refine ev_lv (lv' := [(0, .ref (G.2.1 + t))]) [0] rfl ?_
        refine ev_aload_n dd_X12_number_17 0 rfl ?_
        refine ev_iconst (v := 1) dd_X12_number_18 (by decide) ?_
        refine ev_callVV (As := [.int 1]) cl_RX12_219 (ct_X12_wrong l hl G t ht 1 M1) dd_X12_number_19 ht (by decide) (Nat.le_of_ble_eq_true rfl) (Nat.le_of_ble_eq_true rfl) rfl rfl (fun M4 => ?_)
        refine ev_goto 54 dd_X12_number_22 (by decide) ?_
        exact hk1 _
  · refine ev_lv (lv' := []) [] rfl ?_
    refine ev_iconst (v := 0) dd_X12_number_7 (by decide) ?_
    exact ev_iret dd_X12_number_8 rfl (Nat.le_of_ble_eq_true rfl) rfl
/-! X12_oneHere -/
theorem dd_X12_oneHere_0 : decode Y_X12_oneHere.2.1 0 = .ok (.aload_n 0, 1) := by decide +kernel
theorem dd_X12_oneHere_1 : decode Y_X12_oneHere.2.1 1 = .ok (.invokevirtual 212, 3) := by decide +kernel
theorem dd_X12_oneHere_4 : decode Y_X12_oneHere.2.1 4 = .ok (.ifCond .ne 5, 3) := by decide +kernel
theorem dd_X12_oneHere_7 : decode Y_X12_oneHere.2.1 7 = .ok (.iconst 0, 1) := by decide +kernel
theorem dd_X12_oneHere_8 : decode Y_X12_oneHere.2.1 8 = .ok (.ireturn, 1) := by decide +kernel
theorem dd_X12_oneHere_9 : decode Y_X12_oneHere.2.1 9 = .ok (.aload_n 0, 1) := by decide +kernel
theorem dd_X12_oneHere_10 : decode Y_X12_oneHere.2.1 10 = .ok (.getfield 186, 3) := by decide +kernel
theorem dd_X12_oneHere_13 : decode Y_X12_oneHere.2.1 13 = .ok (.iconst 2, 1) := by decide +kernel
theorem dd_X12_oneHere_14 : decode Y_X12_oneHere.2.1 14 = .ok (.if_icmp .eq 11, 3) := by decide +kernel
theorem dd_X12_oneHere_17 : decode Y_X12_oneHere.2.1 17 = .ok (.aload_n 0, 1) := by decide +kernel
theorem dd_X12_oneHere_18 : decode Y_X12_oneHere.2.1 18 = .ok (.iconst 1, 1) := by decide +kernel
theorem dd_X12_oneHere_19 : decode Y_X12_oneHere.2.1 19 = .ok (.invokevirtual 219, 3) := by decide +kernel
theorem dd_X12_oneHere_22 : decode Y_X12_oneHere.2.1 22 = .ok (.goto 35, 3) := by decide +kernel
theorem dd_X12_oneHere_25 : decode Y_X12_oneHere.2.1 25 = .ok (.aload_n 0, 1) := by decide +kernel
theorem dd_X12_oneHere_26 : decode Y_X12_oneHere.2.1 26 = .ok (.getfield 196, 3) := by decide +kernel
theorem dd_X12_oneHere_29 : decode Y_X12_oneHere.2.1 29 = .ok (.iconst 4, 1) := by decide +kernel
theorem dd_X12_oneHere_30 : decode Y_X12_oneHere.2.1 30 = .ok (.if_icmp .le 11, 3) := by decide +kernel
theorem dd_X12_oneHere_33 : decode Y_X12_oneHere.2.1 33 = .ok (.aload_n 0, 1) := by decide +kernel
theorem dd_X12_oneHere_34 : decode Y_X12_oneHere.2.1 34 = .ok (.iconst 2, 1) := by decide +kernel
theorem dd_X12_oneHere_35 : decode Y_X12_oneHere.2.1 35 = .ok (.invokevirtual 219, 3) := by decide +kernel
theorem dd_X12_oneHere_38 : decode Y_X12_oneHere.2.1 38 = .ok (.goto 19, 3) := by decide +kernel
theorem dd_X12_oneHere_41 : decode Y_X12_oneHere.2.1 41 = .ok (.aload_n 0, 1) := by decide +kernel
theorem dd_X12_oneHere_42 : decode Y_X12_oneHere.2.1 42 = .ok (.getfield 180, 3) := by decide +kernel
theorem dd_X12_oneHere_45 : decode Y_X12_oneHere.2.1 45 = .ok (.aload_n 0, 1) := by decide +kernel
theorem dd_X12_oneHere_46 : decode Y_X12_oneHere.2.1 46 = .ok (.getfield 222, 3) := by decide +kernel
theorem dd_X12_oneHere_49 : decode Y_X12_oneHere.2.1 49 = .ok (.if_icmp .lt 8, 3) := by decide +kernel
theorem dd_X12_oneHere_52 : decode Y_X12_oneHere.2.1 52 = .ok (.aload_n 0, 1) := by decide +kernel
theorem dd_X12_oneHere_53 : decode Y_X12_oneHere.2.1 53 = .ok (.iconst 3, 1) := by decide +kernel
theorem dd_X12_oneHere_54 : decode Y_X12_oneHere.2.1 54 = .ok (.invokevirtual 219, 3) := by decide +kernel
theorem dd_X12_oneHere_57 : decode Y_X12_oneHere.2.1 57 = .ok (.aload_n 0, 1) := by decide +kernel
theorem dd_X12_oneHere_58 : decode Y_X12_oneHere.2.1 58 = .ok (.getfield 180, 3) := by decide +kernel
theorem dd_X12_oneHere_61 : decode Y_X12_oneHere.2.1 61 = .ok (.ireturn, 1) := by decide +kernel
def F_X12_oneHere (t : Nat) (M : zM) : zO := zbI (F_X12_isGood t M) (fun r1 M1 => zit (r1 = 0) (zI 0 M1) (zjo (fun  (M5 : zM) => zI (M5 t 24) M5) (fun (k1 : zM → zO) => zit ((M1 t 21) = 2) (zit ((M1 t 23) ≤ 4) (zit ((M1 t 24) < (M1 t 27)) (k1 M1) (zbV (F_X12_wrong t 3 M1) (fun M2 => k1 M2))) (zbV (F_X12_wrong t 2 M1) (fun M3 => k1 M3))) (zbV (F_X12_wrong t 1 M1) (fun M4 => k1 M4)))))
set_option maxHeartbeats 1000000 in
set_option maxRecDepth 20000 in
theorem ct_X12_oneHere (l : Launch) (hl : l.stackTraces = false) (G : zG) (t : Nat) (ht : zsh t = 12) (M : zM) : zMt l G Y_X12_oneHere 2 [.ref (G.2.1 + t)] M (F_X12_oneHere t M) := by
  refine zMt_of (by decide +kernel) (Nat.le_of_ble_eq_true rfl) ?_
  show zEv l G Y_X12_oneHere 2 0 0 [(0, .ref (G.2.1 + t))] [] M (zbI (F_X12_isGood t M) (fun r1 M1 => zit (r1 = 0) (zI 0 M1) (zjo (fun  (M5 : zM) => zI (M5 t 24) M5) (fun (k1 : zM → zO) => zit ((M1 t 21) = 2) (zit ((M1 t 23) ≤ 4) (zit ((M1 t 24) < (M1 t 27)) (k1 M1) (zbV (F_X12_wrong t 3 M1) (fun M2 => k1 M2))) (zbV (F_X12_wrong t 2 M1) (fun M3 => k1 M3))) (zbV (F_X12_wrong t 1 M1) (fun M4 => k1 M4))))))
  refine ev_aload_n dd_X12_oneHere_0 0 rfl ?_
  refine ev_callVI (As := []) cl_RX12_212 (ct_X12_isGood l hl G t ht M) dd_X12_oneHere_1 ht (by decide) (Nat.le_of_ble_eq_true rfl) (Nat.le_of_ble_eq_true rfl) rfl rfl (fun r1 M1 => ?_)
  refine ev_if_ne 9 dd_X12_oneHere_4 (by decide) ?_ ?_
  · refine ev_aload_n dd_X12_oneHere_9 0 rfl ?_
    refine ev_getI gf_RX12_186 dd_X12_oneHere_10 ht (by decide) ?_
    refine ev_iconst (v := 2) dd_X12_oneHere_13 (by decide) ?_
    refine ev_jo (fun (k1 : zM → zO) => ∀  (M5 : zM), zEv l G Y_X12_oneHere 2 0 57 [(0, .ref (G.2.1 + t))] [] M5 (k1 M5)) ?_ (fun k1 hk1 => ?_)
    · intro M5
      refine ev_aload_n dd_X12_oneHere_57 0 rfl ?_
      refine ev_lv (lv' := []) [] rfl ?_
      refine ev_getI gf_RX12_180 dd_X12_oneHere_58 ht (by decide) ?_
      exact ev_iret dd_X12_oneHere_61 rfl (Nat.le_of_ble_eq_true rfl) rfl
    · refine ev_icmp_eq 25 dd_X12_oneHere_14 (by decide) ?_ ?_
      · refine ev_aload_n dd_X12_oneHere_25 0 rfl ?_
        refine ev_getI gf_RX12_196 dd_X12_oneHere_26 ht (by decide) ?_
        refine ev_iconst (v := 4) dd_X12_oneHere_29 (by decide) ?_
        refine ev_icmp_le 41 dd_X12_oneHere_30 (by decide) ?_ ?_
        · refine ev_aload_n dd_X12_oneHere_41 0 rfl ?_
          refine ev_getI gf_RX12_180 dd_X12_oneHere_42 ht (by decide) ?_
          refine ev_aload_n dd_X12_oneHere_45 0 rfl ?_
          refine ev_getI gf_RX12_222 dd_X12_oneHere_46 ht (by decide) ?_
          refine ev_icmp_lt 57 dd_X12_oneHere_49 (by decide) ?_ ?_
          · exact hk1 _
          · refine ev_aload_n dd_X12_oneHere_52 0 rfl ?_
            refine ev_iconst (v := 3) dd_X12_oneHere_53 (by decide) ?_
            refine ev_callVV (As := [.int 3]) cl_RX12_219 (ct_X12_wrong l hl G t ht 3 M1) dd_X12_oneHere_54 ht (by decide) (Nat.le_of_ble_eq_true rfl) (Nat.le_of_ble_eq_true rfl) rfl rfl (fun M2 => ?_)
            exact hk1 _
        · refine ev_aload_n dd_X12_oneHere_33 0 rfl ?_
          refine ev_iconst (v := 2) dd_X12_oneHere_34 (by decide) ?_
          refine ev_callVV (As := [.int 2]) cl_RX12_219 (ct_X12_wrong l hl G t ht 2 M1) dd_X12_oneHere_35 ht (by decide) (Nat.le_of_ble_eq_true rfl) (Nat.le_of_ble_eq_true rfl) rfl rfl (fun M3 => ?_)
          refine ev_goto 57 dd_X12_oneHere_38 (by decide) ?_
          exact hk1 _
      · refine ev_aload_n dd_X12_oneHere_17 0 rfl ?_
        refine ev_iconst (v := 1) dd_X12_oneHere_18 (by decide) ?_
        refine ev_callVV (As := [.int 1]) cl_RX12_219 (ct_X12_wrong l hl G t ht 1 M1) dd_X12_oneHere_19 ht (by decide) (Nat.le_of_ble_eq_true rfl) (Nat.le_of_ble_eq_true rfl) rfl rfl (fun M4 => ?_)
        refine ev_goto 57 dd_X12_oneHere_22 (by decide) ?_
        exact hk1 _
  · refine ev_lv (lv' := []) [] rfl ?_
    refine ev_iconst (v := 0) dd_X12_oneHere_7 (by decide) ?_
    exact ev_iret dd_X12_oneHere_8 rfl (Nat.le_of_ble_eq_true rfl) rfl
/-! X12_readsFair -/
theorem dd_X12_readsFair_0 : decode Y_X12_readsFair.2.1 0 = .ok (.aload_n 0, 1) := by decide +kernel
theorem dd_X12_readsFair_1 : decode Y_X12_readsFair.2.1 1 = .ok (.getfield 285, 3) := by decide +kernel
theorem dd_X12_readsFair_4 : decode Y_X12_readsFair.2.1 4 = .ok (.bipush 12, 2) := by decide +kernel
theorem dd_X12_readsFair_6 : decode Y_X12_readsFair.2.1 6 = .ok (.if_icmp .ne 8, 3) := by decide +kernel
theorem dd_X12_readsFair_9 : decode Y_X12_readsFair.2.1 9 = .ok (.aload_n 0, 1) := by decide +kernel
theorem dd_X12_readsFair_10 : decode Y_X12_readsFair.2.1 10 = .ok (.iconst 2, 1) := by decide +kernel
theorem dd_X12_readsFair_11 : decode Y_X12_readsFair.2.1 11 = .ok (.invokevirtual 219, 3) := by decide +kernel
theorem dd_X12_readsFair_14 : decode Y_X12_readsFair.2.1 14 = .ok (.aload_n 0, 1) := by decide +kernel
theorem dd_X12_readsFair_15 : decode Y_X12_readsFair.2.1 15 = .ok (.invokevirtual 212, 3) := by decide +kernel
theorem dd_X12_readsFair_18 : decode Y_X12_readsFair.2.1 18 = .ok (.ifCond .ne 4, 3) := by decide +kernel
theorem dd_X12_readsFair_21 : decode Y_X12_readsFair.2.1 21 = .ok (.return_, 1) := by decide +kernel
theorem dd_X12_readsFair_22 : decode Y_X12_readsFair.2.1 22 = .ok (.aload_n 0, 1) := by decide +kernel
theorem dd_X12_readsFair_23 : decode Y_X12_readsFair.2.1 23 = .ok (.invokevirtual 216, 3) := by decide +kernel
theorem dd_X12_readsFair_26 : decode Y_X12_readsFair.2.1 26 = .ok (.iconst 3, 1) := by decide +kernel
theorem dd_X12_readsFair_27 : decode Y_X12_readsFair.2.1 27 = .ok (.aload_n 0, 1) := by decide +kernel
theorem dd_X12_readsFair_28 : decode Y_X12_readsFair.2.1 28 = .ok (.getfield 285, 3) := by decide +kernel
theorem dd_X12_readsFair_31 : decode Y_X12_readsFair.2.1 31 = .ok (.imul, 1) := by decide +kernel
theorem dd_X12_readsFair_32 : decode Y_X12_readsFair.2.1 32 = .ok (.istore_n 1, 1) := by decide +kernel
theorem dd_X12_readsFair_33 : decode Y_X12_readsFair.2.1 33 = .ok (.aload_n 0, 1) := by decide +kernel
theorem dd_X12_readsFair_34 : decode Y_X12_readsFair.2.1 34 = .ok (.getfield 74, 3) := by decide +kernel
theorem dd_X12_readsFair_37 : decode Y_X12_readsFair.2.1 37 = .ok (.iload_n 1, 1) := by decide +kernel
theorem dd_X12_readsFair_38 : decode Y_X12_readsFair.2.1 38 = .ok (.aload_n 0, 1) := by decide +kernel
theorem dd_X12_readsFair_39 : decode Y_X12_readsFair.2.1 39 = .ok (.iconst 0, 1) := by decide +kernel
theorem dd_X12_readsFair_40 : decode Y_X12_readsFair.2.1 40 = .ok (.sipush 200, 3) := by decide +kernel
theorem dd_X12_readsFair_43 : decode Y_X12_readsFair.2.1 43 = .ok (.invokevirtual 275, 3) := by decide +kernel
theorem dd_X12_readsFair_46 : decode Y_X12_readsFair.2.1 46 = .ok (.iastore, 1) := by decide +kernel
theorem dd_X12_readsFair_47 : decode Y_X12_readsFair.2.1 47 = .ok (.aload_n 0, 1) := by decide +kernel
theorem dd_X12_readsFair_48 : decode Y_X12_readsFair.2.1 48 = .ok (.getfield 74, 3) := by decide +kernel
theorem dd_X12_readsFair_51 : decode Y_X12_readsFair.2.1 51 = .ok (.iload_n 1, 1) := by decide +kernel
theorem dd_X12_readsFair_52 : decode Y_X12_readsFair.2.1 52 = .ok (.iconst 1, 1) := by decide +kernel
theorem dd_X12_readsFair_53 : decode Y_X12_readsFair.2.1 53 = .ok (.iadd, 1) := by decide +kernel
theorem dd_X12_readsFair_54 : decode Y_X12_readsFair.2.1 54 = .ok (.aload_n 0, 1) := by decide +kernel
theorem dd_X12_readsFair_55 : decode Y_X12_readsFair.2.1 55 = .ok (.invokevirtual 279, 3) := by decide +kernel
theorem dd_X12_readsFair_58 : decode Y_X12_readsFair.2.1 58 = .ok (.iastore, 1) := by decide +kernel
theorem dd_X12_readsFair_59 : decode Y_X12_readsFair.2.1 59 = .ok (.aload_n 0, 1) := by decide +kernel
theorem dd_X12_readsFair_60 : decode Y_X12_readsFair.2.1 60 = .ok (.invokevirtual 212, 3) := by decide +kernel
theorem dd_X12_readsFair_63 : decode Y_X12_readsFair.2.1 63 = .ok (.ifCond .eq 7, 3) := by decide +kernel
theorem dd_X12_readsFair_66 : decode Y_X12_readsFair.2.1 66 = .ok (.aload_n 0, 1) := by decide +kernel
theorem dd_X12_readsFair_67 : decode Y_X12_readsFair.2.1 67 = .ok (.invokevirtual 216, 3) := by decide +kernel
theorem dd_X12_readsFair_70 : decode Y_X12_readsFair.2.1 70 = .ok (.aload_n 0, 1) := by decide +kernel
theorem dd_X12_readsFair_71 : decode Y_X12_readsFair.2.1 71 = .ok (.getfield 74, 3) := by decide +kernel
theorem dd_X12_readsFair_74 : decode Y_X12_readsFair.2.1 74 = .ok (.iload_n 1, 1) := by decide +kernel
theorem dd_X12_readsFair_75 : decode Y_X12_readsFair.2.1 75 = .ok (.iconst 2, 1) := by decide +kernel
theorem dd_X12_readsFair_76 : decode Y_X12_readsFair.2.1 76 = .ok (.iadd, 1) := by decide +kernel
theorem dd_X12_readsFair_77 : decode Y_X12_readsFair.2.1 77 = .ok (.aload_n 0, 1) := by decide +kernel
theorem dd_X12_readsFair_78 : decode Y_X12_readsFair.2.1 78 = .ok (.invokevirtual 279, 3) := by decide +kernel
theorem dd_X12_readsFair_81 : decode Y_X12_readsFair.2.1 81 = .ok (.iastore, 1) := by decide +kernel
theorem dd_X12_readsFair_82 : decode Y_X12_readsFair.2.1 82 = .ok (.aload_n 0, 1) := by decide +kernel
theorem dd_X12_readsFair_83 : decode Y_X12_readsFair.2.1 83 = .ok (.invokevirtual 212, 3) := by decide +kernel
theorem dd_X12_readsFair_86 : decode Y_X12_readsFair.2.1 86 = .ok (.ifCond .eq 27, 3) := by decide +kernel
theorem dd_X12_readsFair_89 : decode Y_X12_readsFair.2.1 89 = .ok (.aload_n 0, 1) := by decide +kernel
theorem dd_X12_readsFair_90 : decode Y_X12_readsFair.2.1 90 = .ok (.getfield 74, 3) := by decide +kernel
theorem dd_X12_readsFair_93 : decode Y_X12_readsFair.2.1 93 = .ok (.iload_n 1, 1) := by decide +kernel
theorem dd_X12_readsFair_94 : decode Y_X12_readsFair.2.1 94 = .ok (.iconst 2, 1) := by decide +kernel
theorem dd_X12_readsFair_95 : decode Y_X12_readsFair.2.1 95 = .ok (.iadd, 1) := by decide +kernel
theorem dd_X12_readsFair_96 : decode Y_X12_readsFair.2.1 96 = .ok (.iaload, 1) := by decide +kernel
theorem dd_X12_readsFair_97 : decode Y_X12_readsFair.2.1 97 = .ok (.aload_n 0, 1) := by decide +kernel
theorem dd_X12_readsFair_98 : decode Y_X12_readsFair.2.1 98 = .ok (.getfield 74, 3) := by decide +kernel
theorem dd_X12_readsFair_101 : decode Y_X12_readsFair.2.1 101 = .ok (.iload_n 1, 1) := by decide +kernel
theorem dd_X12_readsFair_102 : decode Y_X12_readsFair.2.1 102 = .ok (.iconst 1, 1) := by decide +kernel
theorem dd_X12_readsFair_103 : decode Y_X12_readsFair.2.1 103 = .ok (.iadd, 1) := by decide +kernel
theorem dd_X12_readsFair_104 : decode Y_X12_readsFair.2.1 104 = .ok (.iaload, 1) := by decide +kernel
theorem dd_X12_readsFair_105 : decode Y_X12_readsFair.2.1 105 = .ok (.if_icmp .ne 8, 3) := by decide +kernel
theorem dd_X12_readsFair_108 : decode Y_X12_readsFair.2.1 108 = .ok (.aload_n 0, 1) := by decide +kernel
theorem dd_X12_readsFair_109 : decode Y_X12_readsFair.2.1 109 = .ok (.iconst 4, 1) := by decide +kernel
theorem dd_X12_readsFair_110 : decode Y_X12_readsFair.2.1 110 = .ok (.invokevirtual 219, 3) := by decide +kernel
theorem dd_X12_readsFair_113 : decode Y_X12_readsFair.2.1 113 = .ok (.aload_n 0, 1) := by decide +kernel
theorem dd_X12_readsFair_114 : decode Y_X12_readsFair.2.1 114 = .ok (.invokevirtual 212, 3) := by decide +kernel
theorem dd_X12_readsFair_117 : decode Y_X12_readsFair.2.1 117 = .ok (.ifCond .ne 4, 3) := by decide +kernel
theorem dd_X12_readsFair_120 : decode Y_X12_readsFair.2.1 120 = .ok (.return_, 1) := by decide +kernel
theorem dd_X12_readsFair_121 : decode Y_X12_readsFair.2.1 121 = .ok (.aload_n 0, 1) := by decide +kernel
theorem dd_X12_readsFair_122 : decode Y_X12_readsFair.2.1 122 = .ok (.invokevirtual 216, 3) := by decide +kernel
theorem dd_X12_readsFair_125 : decode Y_X12_readsFair.2.1 125 = .ok (.aload_n 0, 1) := by decide +kernel
theorem dd_X12_readsFair_126 : decode Y_X12_readsFair.2.1 126 = .ok (.dup, 1) := by decide +kernel
theorem dd_X12_readsFair_127 : decode Y_X12_readsFair.2.1 127 = .ok (.getfield 285, 3) := by decide +kernel
theorem dd_X12_readsFair_130 : decode Y_X12_readsFair.2.1 130 = .ok (.iconst 1, 1) := by decide +kernel
theorem dd_X12_readsFair_131 : decode Y_X12_readsFair.2.1 131 = .ok (.iadd, 1) := by decide +kernel
theorem dd_X12_readsFair_132 : decode Y_X12_readsFair.2.1 132 = .ok (.putfield 285, 3) := by decide +kernel
theorem dd_X12_readsFair_135 : decode Y_X12_readsFair.2.1 135 = .ok (.return_, 1) := by decide +kernel
def F_X12_readsFair (t : Nat) (M : zM) : zO := zjo (fun  (M2 : zM) => zbI (F_X12_isGood t M2) (fun r1 M3 => zit (r1 = 0) (zV M3) (zbV (F_X12_goes t M3) (fun M4 => zlt (3 * (M4 t 28)) (fun v1 => zbI (F_X12_number t 0 200 M4) (fun r2 M5 => zck (zin v1 36) (zst (zup M5 (zgr t 43) (zix v1) r2) (fun M6 => zbI (F_X12_oneHere t M6) (fun r3 M7 => zck (zin (v1 + 1) 36) (zst (zup M7 (zgr t 43) (zix (v1 + 1)) r3) (fun M8 => zbI (F_X12_isGood t M8) (fun r4 M9 => zjo (fun  (M11 : zM) => zbI (F_X12_oneHere t M11) (fun r5 M12 => zck (zin (v1 + 2) 36) (zst (zup M12 (zgr t 43) (zix (v1 + 2)) r5) (fun M13 => zbI (F_X12_isGood t M13) (fun r6 M14 => zjo (fun  (M16 : zM) => zbI (F_X12_isGood t M16) (fun r7 M17 => zit (r7 = 0) (zV M17) (zbV (F_X12_goes t M17) (fun M18 => zst (zup M18 t 28 ((M18 t 28) + 1)) (fun M19 => zV M19))))) (fun (k3 : zM → zO) => zit (r6 = 0) (k3 M14) (zck (zin (v1 + 2) 36) (zck (zin (v1 + 1) 36) (zit ((M14 (zgr t 43) (zix (v1 + 2))) = (M14 (zgr t 43) (zix (v1 + 1)))) (zbV (F_X12_wrong t 4 M14) (fun M15 => k3 M15)) (k3 M14)))))))))) (fun (k2 : zM → zO) => zit (r4 = 0) (k2 M9) (zbV (F_X12_goes t M9) (fun M10 => k2 M10))))))))))))))) (fun (k1 : zM → zO) => zit ((M t 28) = 12) (zbV (F_X12_wrong t 2 M) (fun M1 => k1 M1)) (k1 M))
set_option maxHeartbeats 1000000 in
set_option maxRecDepth 20000 in
theorem ct_X12_readsFair (l : Launch) (hl : l.stackTraces = false) (G : zG) (t : Nat) (ht : zsh t = 12) (M : zM) : zMt l G Y_X12_readsFair 4 [.ref (G.2.1 + t)] M (F_X12_readsFair t M) := by
  refine zMt_of (by decide +kernel) (Nat.le_of_ble_eq_true rfl) ?_
  show zEv l G Y_X12_readsFair 4 0 0 [(0, .ref (G.2.1 + t))] [] M (zjo (fun  (M2 : zM) => zbI (F_X12_isGood t M2) (fun r1 M3 => zit (r1 = 0) (zV M3) (zbV (F_X12_goes t M3) (fun M4 => zlt (3 * (M4 t 28)) (fun v1 => zbI (F_X12_number t 0 200 M4) (fun r2 M5 => zck (zin v1 36) (zst (zup M5 (zgr t 43) (zix v1) r2) (fun M6 => zbI (F_X12_oneHere t M6) (fun r3 M7 => zck (zin (v1 + 1) 36) (zst (zup M7 (zgr t 43) (zix (v1 + 1)) r3) (fun M8 => zbI (F_X12_isGood t M8) (fun r4 M9 => zjo (fun  (M11 : zM) => zbI (F_X12_oneHere t M11) (fun r5 M12 => zck (zin (v1 + 2) 36) (zst (zup M12 (zgr t 43) (zix (v1 + 2)) r5) (fun M13 => zbI (F_X12_isGood t M13) (fun r6 M14 => zjo (fun  (M16 : zM) => zbI (F_X12_isGood t M16) (fun r7 M17 => zit (r7 = 0) (zV M17) (zbV (F_X12_goes t M17) (fun M18 => zst (zup M18 t 28 ((M18 t 28) + 1)) (fun M19 => zV M19))))) (fun (k3 : zM → zO) => zit (r6 = 0) (k3 M14) (zck (zin (v1 + 2) 36) (zck (zin (v1 + 1) 36) (zit ((M14 (zgr t 43) (zix (v1 + 2))) = (M14 (zgr t 43) (zix (v1 + 1)))) (zbV (F_X12_wrong t 4 M14) (fun M15 => k3 M15)) (k3 M14)))))))))) (fun (k2 : zM → zO) => zit (r4 = 0) (k2 M9) (zbV (F_X12_goes t M9) (fun M10 => k2 M10))))))))))))))) (fun (k1 : zM → zO) => zit ((M t 28) = 12) (zbV (F_X12_wrong t 2 M) (fun M1 => k1 M1)) (k1 M)))
  refine ev_aload_n dd_X12_readsFair_0 0 rfl ?_
  refine ev_getI gf_RX12_285 dd_X12_readsFair_1 ht (by decide) ?_
  refine ev_bipush (v := 12) dd_X12_readsFair_4 (by decide) ?_
  refine ev_jo (fun (k1 : zM → zO) => ∀  (M2 : zM), zEv l G Y_X12_readsFair 4 0 14 [(0, .ref (G.2.1 + t))] [] M2 (k1 M2)) ?_ (fun k1 hk1 => ?_)
  · intro M2
    refine ev_aload_n dd_X12_readsFair_14 0 rfl ?_
    refine ev_callVI (As := []) cl_RX12_212 (ct_X12_isGood l hl G t ht M2) dd_X12_readsFair_15 ht (by decide) (Nat.le_of_ble_eq_true rfl) (Nat.le_of_ble_eq_true rfl) rfl rfl (fun r1 M3 => ?_)
    refine ev_if_ne 22 dd_X12_readsFair_18 (by decide) ?_ ?_
    · refine ev_aload_n dd_X12_readsFair_22 0 rfl ?_
      refine ev_callVV (As := []) cl_RX12_216 (ct_X12_goes l hl G t ht M3) dd_X12_readsFair_23 ht (by decide) (Nat.le_of_ble_eq_true rfl) (Nat.le_of_ble_eq_true rfl) rfl rfl (fun M4 => ?_)
      refine ev_iconst (v := 3) dd_X12_readsFair_26 (by decide) ?_
      refine ev_aload_n dd_X12_readsFair_27 0 rfl ?_
      refine ev_getI gf_RX12_285 dd_X12_readsFair_28 ht (by decide) ?_
      refine ev_imul dd_X12_readsFair_31 ?_
      refine ev_topi (fun v1 => ?_)
      refine ev_istore_n (i := 1) (lv' := [(0, .ref (G.2.1 + t)), (1, .int v1)]) [1, 0] dd_X12_readsFair_32 rfl (by decide) rfl ?_
      refine ev_aload_n dd_X12_readsFair_33 0 rfl ?_
      refine ev_getR gf_RX12_74 dd_X12_readsFair_34 ht (by decide) ?_
      refine ev_iload_n dd_X12_readsFair_37 1 rfl ?_
      refine ev_aload_n dd_X12_readsFair_38 0 rfl ?_
      refine ev_iconst (v := 0) dd_X12_readsFair_39 (by decide) ?_
      refine ev_sipush (v := 200) dd_X12_readsFair_40 (by decide) ?_
      refine ev_callVI (As := [.int 0, .int 200]) cl_RX12_275 (ct_X12_number l hl G t ht 0 200 M4) dd_X12_readsFair_43 ht (by decide) (Nat.le_of_ble_eq_true rfl) (Nat.le_of_ble_eq_true rfl) rfl rfl (fun r2 M5 => ?_)
      refine ev_iast dd_X12_readsFair_46 ((zg_12_43 ht).1) ((zg_12_43 ht).2) ?_
      refine ev_st (fun M6 => ?_)
      refine ev_aload_n dd_X12_readsFair_47 0 rfl ?_
      refine ev_getR gf_RX12_74 dd_X12_readsFair_48 ht (by decide) ?_
      refine ev_iload_n dd_X12_readsFair_51 1 rfl ?_
      refine ev_iconst (v := 1) dd_X12_readsFair_52 (by decide) ?_
      refine ev_iadd dd_X12_readsFair_53 ?_
      refine ev_aload_n dd_X12_readsFair_54 0 rfl ?_
      refine ev_callVI (As := []) cl_RX12_279 (ct_X12_oneHere l hl G t ht M6) dd_X12_readsFair_55 ht (by decide) (Nat.le_of_ble_eq_true rfl) (Nat.le_of_ble_eq_true rfl) rfl rfl (fun r3 M7 => ?_)
      refine ev_iast dd_X12_readsFair_58 ((zg_12_43 ht).1) ((zg_12_43 ht).2) ?_
      refine ev_st (fun M8 => ?_)
      refine ev_aload_n dd_X12_readsFair_59 0 rfl ?_
      refine ev_callVI (As := []) cl_RX12_212 (ct_X12_isGood l hl G t ht M8) dd_X12_readsFair_60 ht (by decide) (Nat.le_of_ble_eq_true rfl) (Nat.le_of_ble_eq_true rfl) rfl rfl (fun r4 M9 => ?_)
      refine ev_jo (fun (k2 : zM → zO) => ∀  (M11 : zM), zEv l G Y_X12_readsFair 4 0 70 [(0, .ref (G.2.1 + t)), (1, .int v1)] [] M11 (k2 M11)) ?_ (fun k2 hk2 => ?_)
      · intro M11
        refine ev_aload_n dd_X12_readsFair_70 0 rfl ?_
        refine ev_getR gf_RX12_74 dd_X12_readsFair_71 ht (by decide) ?_
        refine ev_iload_n dd_X12_readsFair_74 1 rfl ?_
        refine ev_iconst (v := 2) dd_X12_readsFair_75 (by decide) ?_
        refine ev_iadd dd_X12_readsFair_76 ?_
        refine ev_aload_n dd_X12_readsFair_77 0 rfl ?_
        refine ev_callVI (As := []) cl_RX12_279 (ct_X12_oneHere l hl G t ht M11) dd_X12_readsFair_78 ht (by decide) (Nat.le_of_ble_eq_true rfl) (Nat.le_of_ble_eq_true rfl) rfl rfl (fun r5 M12 => ?_)
        refine ev_iast dd_X12_readsFair_81 ((zg_12_43 ht).1) ((zg_12_43 ht).2) ?_
        refine ev_st (fun M13 => ?_)
        refine ev_aload_n dd_X12_readsFair_82 0 rfl ?_
        refine ev_callVI (As := []) cl_RX12_212 (ct_X12_isGood l hl G t ht M13) dd_X12_readsFair_83 ht (by decide) (Nat.le_of_ble_eq_true rfl) (Nat.le_of_ble_eq_true rfl) rfl rfl (fun r6 M14 => ?_)
        refine ev_jo (fun (k3 : zM → zO) => ∀  (M16 : zM), zEv l G Y_X12_readsFair 4 0 113 [(0, .ref (G.2.1 + t))] [] M16 (k3 M16)) ?_ (fun k3 hk3 => ?_)
        · intro M16
          refine ev_aload_n dd_X12_readsFair_113 0 rfl ?_
          refine ev_callVI (As := []) cl_RX12_212 (ct_X12_isGood l hl G t ht M16) dd_X12_readsFair_114 ht (by decide) (Nat.le_of_ble_eq_true rfl) (Nat.le_of_ble_eq_true rfl) rfl rfl (fun r7 M17 => ?_)
          refine ev_if_ne 121 dd_X12_readsFair_117 (by decide) ?_ ?_
          · refine ev_aload_n dd_X12_readsFair_121 0 rfl ?_
            refine ev_callVV (As := []) cl_RX12_216 (ct_X12_goes l hl G t ht M17) dd_X12_readsFair_122 ht (by decide) (Nat.le_of_ble_eq_true rfl) (Nat.le_of_ble_eq_true rfl) rfl rfl (fun M18 => ?_)
            refine ev_aload_n dd_X12_readsFair_125 0 rfl ?_
            refine ev_lv (lv' := []) [] rfl ?_
            refine ev_dup dd_X12_readsFair_126 rfl ?_
            refine ev_getI gf_RX12_285 dd_X12_readsFair_127 ht (by decide) ?_
            refine ev_iconst (v := 1) dd_X12_readsFair_130 (by decide) ?_
            refine ev_iadd dd_X12_readsFair_131 ?_
            refine ev_putI gw_RX12_285 dd_X12_readsFair_132 ht (by decide) ?_
            refine ev_st (fun M19 => ?_)
            exact ev_vret dd_X12_readsFair_135 rfl (Nat.le_of_ble_eq_true rfl) rfl
          · refine ev_lv (lv' := []) [] rfl ?_
            exact ev_vret dd_X12_readsFair_120 rfl (Nat.le_of_ble_eq_true rfl) rfl
        · refine ev_if_eq 113 dd_X12_readsFair_86 (by decide) ?_ ?_
          · refine ev_lv (lv' := [(0, .ref (G.2.1 + t))]) [0] rfl ?_
            exact hk3 _
          · refine ev_aload_n dd_X12_readsFair_89 0 rfl ?_
            refine ev_getR gf_RX12_74 dd_X12_readsFair_90 ht (by decide) ?_
            refine ev_iload_n dd_X12_readsFair_93 1 rfl ?_
            refine ev_iconst (v := 2) dd_X12_readsFair_94 (by decide) ?_
            refine ev_iadd dd_X12_readsFair_95 ?_
            refine ev_iald dd_X12_readsFair_96 ((zg_12_43 ht).1) ((zg_12_43 ht).2) ?_
            refine ev_aload_n dd_X12_readsFair_97 0 rfl ?_
            refine ev_getR gf_RX12_74 dd_X12_readsFair_98 ht (by decide) ?_
            refine ev_iload_n dd_X12_readsFair_101 1 rfl ?_
            refine ev_lv (lv' := [(0, .ref (G.2.1 + t))]) [0] rfl ?_
            refine ev_iconst (v := 1) dd_X12_readsFair_102 (by decide) ?_
            refine ev_iadd dd_X12_readsFair_103 ?_
            refine ev_iald dd_X12_readsFair_104 ((zg_12_43 ht).1) ((zg_12_43 ht).2) ?_
            refine ev_icmp_ne 113 dd_X12_readsFair_105 (by decide) ?_ ?_
            · exact hk3 _
            · refine ev_aload_n dd_X12_readsFair_108 0 rfl ?_
              refine ev_iconst (v := 4) dd_X12_readsFair_109 (by decide) ?_
              refine ev_callVV (As := [.int 4]) cl_RX12_219 (ct_X12_wrong l hl G t ht 4 M14) dd_X12_readsFair_110 ht (by decide) (Nat.le_of_ble_eq_true rfl) (Nat.le_of_ble_eq_true rfl) rfl rfl (fun M15 => ?_)
              exact hk3 _
      · refine ev_if_eq 70 dd_X12_readsFair_63 (by decide) ?_ ?_
        · exact hk2 _
        · refine ev_aload_n dd_X12_readsFair_66 0 rfl ?_
          refine ev_callVV (As := []) cl_RX12_216 (ct_X12_goes l hl G t ht M9) dd_X12_readsFair_67 ht (by decide) (Nat.le_of_ble_eq_true rfl) (Nat.le_of_ble_eq_true rfl) rfl rfl (fun M10 => ?_)
          exact hk2 _
    · refine ev_lv (lv' := []) [] rfl ?_
      exact ev_vret dd_X12_readsFair_21 rfl (Nat.le_of_ble_eq_true rfl) rfl
  · refine ev_icmp_ne 14 dd_X12_readsFair_6 (by decide) ?_ ?_
    · exact hk1 _
    · refine ev_aload_n dd_X12_readsFair_9 0 rfl ?_
      refine ev_iconst (v := 2) dd_X12_readsFair_10 (by decide) ?_
      refine ev_callVV (As := [.int 2]) cl_RX12_219 (ct_X12_wrong l hl G t ht 2 M) dd_X12_readsFair_11 ht (by decide) (Nat.le_of_ble_eq_true rfl) (Nat.le_of_ble_eq_true rfl) rfl rfl (fun M1 => ?_)
      exact hk1 _
