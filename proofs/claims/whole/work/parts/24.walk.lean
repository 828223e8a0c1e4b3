/-! F functions and walks, by program (gen.py, mkparts.py) -/
/-! X7_read -/
theorem dd_X7_read_0 : decode Y_X7_read.2.1 0 = .ok (.aload_n 0, 1) := by decide +kernel
theorem dd_X7_read_1 : decode Y_X7_read.2.1 1 = .ok (.getfield 9, 3) := by decide +kernel
theorem dd_X7_read_4 : decode Y_X7_read.2.1 4 = .ok (.iload_n 1, 1) := by decide +kernel
theorem dd_X7_read_5 : decode Y_X7_read.2.1 5 = .ok (.invokevirtual 19, 3) := by decide +kernel
theorem dd_X7_read_8 : decode Y_X7_read.2.1 8 = .ok (.aload_n 0, 1) := by decide +kernel
theorem dd_X7_read_9 : decode Y_X7_read.2.1 9 = .ok (.getfield 15, 3) := by decide +kernel
theorem dd_X7_read_12 : decode Y_X7_read.2.1 12 = .ok (.invokevirtual 25, 3) := by decide +kernel
theorem dd_X7_read_15 : decode Y_X7_read.2.1 15 = .ok (.iconst 0, 1) := by decide +kernel
theorem dd_X7_read_16 : decode Y_X7_read.2.1 16 = .ok (.istore_n 2, 1) := by decide +kernel
theorem dd_X7_read_17 : decode Y_X7_read.2.1 17 = .ok (.iload_n 2, 1) := by decide +kernel
theorem dd_X7_read_18 : decode Y_X7_read.2.1 18 = .ok (.sipush 700, 3) := by decide +kernel
theorem dd_X7_read_21 : decode Y_X7_read.2.1 21 = .ok (.if_icmp .ge 45, 3) := by decide +kernel
theorem dd_X7_read_24 : decode Y_X7_read.2.1 24 = .ok (.aload_n 0, 1) := by decide +kernel
theorem dd_X7_read_25 : decode Y_X7_read.2.1 25 = .ok (.getfield 9, 3) := by decide +kernel
theorem dd_X7_read_28 : decode Y_X7_read.2.1 28 = .ok (.getfield 30, 3) := by decide +kernel
theorem dd_X7_read_31 : decode Y_X7_read.2.1 31 = .ok (.ifCond .ne 35, 3) := by decide +kernel
theorem dd_X7_read_34 : decode Y_X7_read.2.1 34 = .ok (.aload_n 0, 1) := by decide +kernel
theorem dd_X7_read_35 : decode Y_X7_read.2.1 35 = .ok (.getfield 9, 3) := by decide +kernel
theorem dd_X7_read_38 : decode Y_X7_read.2.1 38 = .ok (.getfield 34, 3) := by decide +kernel
theorem dd_X7_read_41 : decode Y_X7_read.2.1 41 = .ok (.sipush 256, 3) := by decide +kernel
theorem dd_X7_read_44 : decode Y_X7_read.2.1 44 = .ok (.if_icmp .eq 22, 3) := by decide +kernel
theorem dd_X7_read_47 : decode Y_X7_read.2.1 47 = .ok (.aload_n 0, 1) := by decide +kernel
theorem dd_X7_read_48 : decode Y_X7_read.2.1 48 = .ok (.invokevirtual 37, 3) := by decide +kernel
theorem dd_X7_read_51 : decode Y_X7_read.2.1 51 = .ok (.aload_n 0, 1) := by decide +kernel
theorem dd_X7_read_52 : decode Y_X7_read.2.1 52 = .ok (.getfield 9, 3) := by decide +kernel
theorem dd_X7_read_55 : decode Y_X7_read.2.1 55 = .ok (.bipush 59, 2) := by decide +kernel
theorem dd_X7_read_57 : decode Y_X7_read.2.1 57 = .ok (.invokevirtual 40, 3) := by decide +kernel
theorem dd_X7_read_60 : decode Y_X7_read.2.1 60 = .ok (.iinc 2 1, 3) := by decide +kernel
theorem dd_X7_read_63 : decode Y_X7_read.2.1 63 = .ok (.goto (-46), 3) := by decide +kernel
theorem dd_X7_read_66 : decode Y_X7_read.2.1 66 = .ok (.aload_n 0, 1) := by decide +kernel
theorem dd_X7_read_67 : decode Y_X7_read.2.1 67 = .ok (.getfield 9, 3) := by decide +kernel
theorem dd_X7_read_70 : decode Y_X7_read.2.1 70 = .ok (.getfield 30, 3) := by decide +kernel
theorem dd_X7_read_73 : decode Y_X7_read.2.1 73 = .ok (.ireturn, 1) := by decide +kernel
def F_X7_read_L17 (x0 : Nat) (K66 : zM → zO) : Nat → Int32 → zM → zO
  | 0, _, _ => none
  | n + 1, x2, M => zit (700 ≤ x2) (K66 M) (zit ((M (zgr x0 0) 7) = 0) (zit ((M (zgr x0 0) 3) = 256) (K66 M) (zbV (F_X7_readLine x0 M) (fun M3 => zbV (F_X8_takeSign (zgr x0 0) 59 M3) (fun M4 => F_X7_read_L17 x0 K66 n (x2 + 1) M4)))) (K66 M))
def F_X7_read (t : Nat) (a1 : Int32) (M : zM) : zO := zbV (F_X8_open (zgr t 0) a1 M) (fun M1 => zbV (F_X6_clear (zgr t 1) M1) (fun M2 => F_X7_read_L17 t (fun  (M5 : zM) => zI (M5 (zgr t 0) 7) M5) zN 0 M2))
set_option maxHeartbeats 1000000 in
set_option maxRecDepth 20000 in
theorem ct_X7_read_L17 (l : Launch) (hl : l.stackTraces = false) (G : zG) (x0 : Nat) (hx0 : zsh x0 = 7) (K66 : zM → zO) (hK66 : ∀  (M : zM), zEv l G Y_X7_read 183 0 66 [(0, .ref (G.2.1 + x0))] [] M (K66 M)) : ∀ (n : Nat) (x2 : Int32) (M : zM), zEv l G Y_X7_read 183 0 17 [(0, .ref (G.2.1 + x0)), (2, .int x2)] [] M (F_X7_read_L17 x0 K66 n x2 M) := by
  intro n
  induction n with
  | zero => intro x2 M; exact ev_none
  | succ n ih =>
    intro x2 M
    show zEv l G Y_X7_read 183 0 17 [(0, .ref (G.2.1 + x0)), (2, .int x2)] [] M (zit (700 ≤ x2) (K66 M) (zit ((M (zgr x0 0) 7) = 0) (zit ((M (zgr x0 0) 3) = 256) (K66 M) (zbV (F_X7_readLine x0 M) (fun M3 => zbV (F_X8_takeSign (zgr x0 0) 59 M3) (fun M4 => F_X7_read_L17 x0 K66 n (x2 + 1) M4)))) (K66 M)))
    refine ev_iload_n dd_X7_read_17 1 rfl ?_
    refine ev_sipush (v := 700) dd_X7_read_18 (by decide) ?_
    refine ev_icmp_ge 66 dd_X7_read_21 (by decide) ?_ ?_
    · refine ev_lv (lv' := [(0, .ref (G.2.1 + x0))]) [0] rfl ?_
      exact hK66 _
    · refine ev_aload_n dd_X7_read_24 0 rfl ?_
      refine ev_getR gf_RX7_9 dd_X7_read_25 hx0 (by decide) ?_
      refine ev_getI gf_RX7_30 dd_X7_read_28 (zg_7_0 hx0) (by decide) ?_
      refine ev_if_ne 66 dd_X7_read_31 (by decide) ?_ ?_
      · refine ev_lv (lv' := [(0, .ref (G.2.1 + x0))]) [0] rfl ?_
        exact hK66 _
      · refine ev_aload_n dd_X7_read_34 0 rfl ?_
        refine ev_getR gf_RX7_9 dd_X7_read_35 hx0 (by decide) ?_
        refine ev_getI gf_RX7_34 dd_X7_read_38 (zg_7_0 hx0) (by decide) ?_
        refine ev_sipush (v := 256) dd_X7_read_41 (by decide) ?_
        refine ev_icmp_eq 66 dd_X7_read_44 (by decide) ?_ ?_
        · refine ev_lv (lv' := [(0, .ref (G.2.1 + x0))]) [0] rfl ?_
          exact hK66 _
        · refine ev_aload_n dd_X7_read_47 0 rfl ?_
          refine ev_callVV (As := []) cl_RX7_37 (ct_X7_readLine l hl G x0 hx0 M) dd_X7_read_48 hx0 (by decide) (Nat.le_of_ble_eq_true rfl) (Nat.le_of_ble_eq_true rfl) rfl rfl (fun M3 => ?_)
          refine ev_aload_n dd_X7_read_51 0 rfl ?_
          refine ev_getR gf_RX7_9 dd_X7_read_52 hx0 (by decide) ?_
          refine ev_bipush (v := 59) dd_X7_read_55 (by decide) ?_
          refine ev_callVV (As := [.int 59]) cl_RX7_40 (ct_X8_takeSign l hl G (zgr x0 0) (zg_7_0 hx0) 59 M3) dd_X7_read_57 (zg_7_0 hx0) (by decide) (Nat.le_of_ble_eq_true rfl) (Nat.le_of_ble_eq_true rfl) rfl rfl (fun M4 => ?_)
          refine ev_iinc (j := 1) (v := 1) (lv' := [(0, .ref (G.2.1 + x0)), (2, .int (x2 + 1))]) [1, 0] dd_X7_read_60 rfl (by decide) (by decide) rfl ?_
          refine ev_goto 17 dd_X7_read_63 (by decide) ?_
          exact ih _ _
set_option maxHeartbeats 1000000 in
set_option maxRecDepth 20000 in
theorem ct_X7_read (l : Launch) (hl : l.stackTraces = false) (G : zG) (t : Nat) (ht : zsh t = 7) (a1 : Int32) (M : zM) : zMt l G Y_X7_read 183 [.ref (G.2.1 + t), .int a1] M (F_X7_read t a1 M) := by
  refine zMt_of (by decide +kernel) (Nat.le_of_ble_eq_true rfl) ?_
  show zEv l G Y_X7_read 183 0 0 [(0, .ref (G.2.1 + t)), (1, .int a1)] [] M (zbV (F_X8_open (zgr t 0) a1 M) (fun M1 => zbV (F_X6_clear (zgr t 1) M1) (fun M2 => F_X7_read_L17 t (fun  (M5 : zM) => zI (M5 (zgr t 0) 7) M5) zN 0 M2)))
  refine ev_aload_n dd_X7_read_0 0 rfl ?_
  refine ev_getR gf_RX7_9 dd_X7_read_1 ht (by decide) ?_
  refine ev_iload_n dd_X7_read_4 1 rfl ?_
  refine ev_lv (lv' := [(0, .ref (G.2.1 + t))]) [0] rfl ?_
  refine ev_callVV (As := [.int a1]) cl_RX7_19 (ct_X8_open l hl G (zgr t 0) (zg_7_0 ht) a1 M) dd_X7_read_5 (zg_7_0 ht) (by decide) (Nat.le_of_ble_eq_true rfl) (Nat.le_of_ble_eq_true rfl) rfl rfl (fun M1 => ?_)
  refine ev_aload_n dd_X7_read_8 0 rfl ?_
  refine ev_getR gf_RX7_15 dd_X7_read_9 ht (by decide) ?_
  refine ev_callVV (As := []) cl_RX7_25 (ct_X6_clear l hl G (zgr t 1) (zg_7_1 ht) M1) dd_X7_read_12 (zg_7_1 ht) (by decide) (Nat.le_of_ble_eq_true rfl) (Nat.le_of_ble_eq_true rfl) rfl rfl (fun M2 => ?_)
  refine ev_iconst (v := 0) dd_X7_read_15 (by decide) ?_
  refine ev_istore_n (i := 2) (lv' := [(0, .ref (G.2.1 + t)), (2, .int 0)]) [1, 0] dd_X7_read_16 rfl (by decide) rfl ?_
  refine ct_X7_read_L17 l hl G t ht _ (fun M5 => ?_) zN _ _
  refine ev_aload_n dd_X7_read_66 0 rfl ?_
  refine ev_lv (lv' := []) [] rfl ?_
  refine ev_getR gf_RX7_9 dd_X7_read_67 ht (by decide) ?_
  refine ev_getI gf_RX7_30 dd_X7_read_70 (zg_7_0 ht) (by decide) ?_
  exact ev_iret dd_X7_read_73 rfl (Nat.le_of_ble_eq_true rfl) rfl
/-! X11_sea -/
theorem dd_X11_sea_0 : decode Y_X11_sea.2.1 0 = .ok (.iload_n 1, 1) := by decide +kernel
theorem dd_X11_sea_1 : decode Y_X11_sea.2.1 1 = .ok (.ifCond .lt 14, 3) := by decide +kernel
theorem dd_X11_sea_4 : decode Y_X11_sea.2.1 4 = .ok (.iload_n 1, 1) := by decide +kernel
theorem dd_X11_sea_5 : decode Y_X11_sea.2.1 5 = .ok (.aload_n 0, 1) := by decide +kernel
theorem dd_X11_sea_6 : decode Y_X11_sea.2.1 6 = .ok (.getfield 10, 3) := by decide +kernel
theorem dd_X11_sea_9 : decode Y_X11_sea.2.1 9 = .ok (.getfield 116, 3) := by decide +kernel
theorem dd_X11_sea_12 : decode Y_X11_sea.2.1 12 = .ok (.if_icmp .le 13, 3) := by decide +kernel
theorem dd_X11_sea_15 : decode Y_X11_sea.2.1 15 = .ok (.new 119, 3) := by decide +kernel
theorem dd_X11_sea_18 : decode Y_X11_sea.2.1 18 = .ok (.dup, 1) := by decide +kernel
theorem dd_X11_sea_19 : decode Y_X11_sea.2.1 19 = .ok (.ldc 121, 2) := by decide +kernel
theorem dd_X11_sea_21 : decode Y_X11_sea.2.1 21 = .ok (.invokespecial 123, 3) := by decide +kernel
theorem dd_X11_sea_24 : decode Y_X11_sea.2.1 24 = .ok (.athrow, 1) := by decide +kernel
theorem dd_X11_sea_25 : decode Y_X11_sea.2.1 25 = .ok (.aload_n 0, 1) := by decide +kernel
theorem dd_X11_sea_26 : decode Y_X11_sea.2.1 26 = .ok (.getfield 31, 3) := by decide +kernel
theorem dd_X11_sea_29 : decode Y_X11_sea.2.1 29 = .ok (.iload_n 1, 1) := by decide +kernel
theorem dd_X11_sea_30 : decode Y_X11_sea.2.1 30 = .ok (.invokevirtual 126, 3) := by decide +kernel
theorem dd_X11_sea_33 : decode Y_X11_sea.2.1 33 = .ok (.istore_n 2, 1) := by decide +kernel
theorem dd_X11_sea_34 : decode Y_X11_sea.2.1 34 = .ok (.aload_n 0, 1) := by decide +kernel
theorem dd_X11_sea_35 : decode Y_X11_sea.2.1 35 = .ok (.getfield 10, 3) := by decide +kernel
theorem dd_X11_sea_38 : decode Y_X11_sea.2.1 38 = .ok (.iconst 0, 1) := by decide +kernel
theorem dd_X11_sea_39 : decode Y_X11_sea.2.1 39 = .ok (.putfield 116, 3) := by decide +kernel
theorem dd_X11_sea_42 : decode Y_X11_sea.2.1 42 = .ok (.iload_n 2, 1) := by decide +kernel
theorem dd_X11_sea_43 : decode Y_X11_sea.2.1 43 = .ok (.ifCond .eq 15, 3) := by decide +kernel
theorem dd_X11_sea_46 : decode Y_X11_sea.2.1 46 = .ok (.aload_n 0, 1) := by decide +kernel
theorem dd_X11_sea_47 : decode Y_X11_sea.2.1 47 = .ok (.getfield 96, 3) := by decide +kernel
theorem dd_X11_sea_50 : decode Y_X11_sea.2.1 50 = .ok (.iconst 0, 1) := by decide +kernel
theorem dd_X11_sea_51 : decode Y_X11_sea.2.1 51 = .ok (.dup2, 1) := by decide +kernel
theorem dd_X11_sea_52 : decode Y_X11_sea.2.1 52 = .ok (.iaload, 1) := by decide +kernel
theorem dd_X11_sea_53 : decode Y_X11_sea.2.1 53 = .ok (.iconst 1, 1) := by decide +kernel
theorem dd_X11_sea_54 : decode Y_X11_sea.2.1 54 = .ok (.iadd, 1) := by decide +kernel
theorem dd_X11_sea_55 : decode Y_X11_sea.2.1 55 = .ok (.iastore, 1) := by decide +kernel
theorem dd_X11_sea_56 : decode Y_X11_sea.2.1 56 = .ok (.iload_n 2, 1) := by decide +kernel
theorem dd_X11_sea_57 : decode Y_X11_sea.2.1 57 = .ok (.ireturn, 1) := by decide +kernel
theorem dd_X11_sea_58 : decode Y_X11_sea.2.1 58 = .ok (.aload_n 0, 1) := by decide +kernel
theorem dd_X11_sea_59 : decode Y_X11_sea.2.1 59 = .ok (.getfield 19, 3) := by decide +kernel
theorem dd_X11_sea_62 : decode Y_X11_sea.2.1 62 = .ok (.aload_n 0, 1) := by decide +kernel
theorem dd_X11_sea_63 : decode Y_X11_sea.2.1 63 = .ok (.getfield 23, 3) := by decide +kernel
theorem dd_X11_sea_66 : decode Y_X11_sea.2.1 66 = .ok (.invokevirtual 130, 3) := by decide +kernel
theorem dd_X11_sea_69 : decode Y_X11_sea.2.1 69 = .ok (.aload_n 0, 1) := by decide +kernel
theorem dd_X11_sea_70 : decode Y_X11_sea.2.1 70 = .ok (.getfield 40, 3) := by decide +kernel
theorem dd_X11_sea_73 : decode Y_X11_sea.2.1 73 = .ok (.invokevirtual 133, 3) := by decide +kernel
theorem dd_X11_sea_76 : decode Y_X11_sea.2.1 76 = .ok (.aload_n 0, 1) := by decide +kernel
theorem dd_X11_sea_77 : decode Y_X11_sea.2.1 77 = .ok (.getfield 53, 3) := by decide +kernel
theorem dd_X11_sea_80 : decode Y_X11_sea.2.1 80 = .ok (.invokevirtual 136, 3) := by decide +kernel
theorem dd_X11_sea_83 : decode Y_X11_sea.2.1 83 = .ok (.aload_n 0, 1) := by decide +kernel
theorem dd_X11_sea_84 : decode Y_X11_sea.2.1 84 = .ok (.iconst 0, 1) := by decide +kernel
theorem dd_X11_sea_85 : decode Y_X11_sea.2.1 85 = .ok (.putfield 100, 3) := by decide +kernel
theorem dd_X11_sea_88 : decode Y_X11_sea.2.1 88 = .ok (.aload_n 0, 1) := by decide +kernel
theorem dd_X11_sea_89 : decode Y_X11_sea.2.1 89 = .ok (.dup, 1) := by decide +kernel
theorem dd_X11_sea_90 : decode Y_X11_sea.2.1 90 = .ok (.getfield 104, 3) := by decide +kernel
theorem dd_X11_sea_93 : decode Y_X11_sea.2.1 93 = .ok (.iconst 1, 1) := by decide +kernel
theorem dd_X11_sea_94 : decode Y_X11_sea.2.1 94 = .ok (.iadd, 1) := by decide +kernel
theorem dd_X11_sea_95 : decode Y_X11_sea.2.1 95 = .ok (.putfield 104, 3) := by decide +kernel
theorem dd_X11_sea_98 : decode Y_X11_sea.2.1 98 = .ok (.iconst 0, 1) := by decide +kernel
theorem dd_X11_sea_99 : decode Y_X11_sea.2.1 99 = .ok (.ireturn, 1) := by decide +kernel
def F_X11_sea (t : Nat) (a1 : Int32) (M : zM) : zO := zjo (fun  (M9 : zM) => zE "java/lang/IllegalArgumentException" M9) (fun (k1 : zM → zO) => zit (a1 < 0) (k1 M) (zit (a1 ≤ (M (zgr t 0) 1)) (zbI (F_X7_read (zgr t 3) a1 M) (fun r1 M1 => zst (zup M1 (zgr t 0) 1 0) (fun M2 => zit (r1 = 0) (zbV (F_X6_copy (zgr t 1) (zgr t 2) M2) (fun M3 => zbV (F_X10_begin (zgr t 4) M3) (fun M4 => zbV (F_X3_clear (zgr t 7) M4) (fun M5 => zck (zbo 0) (zst (zup M5 t 14 0) (fun M6 => zst (zup M6 t 15 ((M6 t 15) + 1)) (fun M7 => zI 0 M7))))))) (zck (zin 0 3) (zck (zin 0 3) (zst (zup M2 (zgr t 13) (zix 0) ((M2 (zgr t 13) (zix 0)) + 1)) (fun M8 => zI r1 M8))))))) (k1 M)))
set_option maxHeartbeats 1000000 in
set_option maxRecDepth 20000 in
theorem ct_X11_sea (l : Launch) (hl : l.stackTraces = false) (G : zG) (t : Nat) (ht : zsh t = 11) (a1 : Int32) (M : zM) : zMt l G Y_X11_sea 184 [.ref (G.2.1 + t), .int a1] M (F_X11_sea t a1 M) := by
  refine zMt_of (by decide +kernel) (Nat.le_of_ble_eq_true rfl) ?_
  show zEv l G Y_X11_sea 184 0 0 [(0, .ref (G.2.1 + t)), (1, .int a1)] [] M (zjo (fun  (M9 : zM) => zE "java/lang/IllegalArgumentException" M9) (fun (k1 : zM → zO) => zit (a1 < 0) (k1 M) (zit (a1 ≤ (M (zgr t 0) 1)) (zbI (F_X7_read (zgr t 3) a1 M) (fun r1 M1 => zst (zup M1 (zgr t 0) 1 0) (fun M2 => zit (r1 = 0) (zbV (F_X6_copy (zgr t 1) (zgr t 2) M2) (fun M3 => zbV (F_X10_begin (zgr t 4) M3) (fun M4 => zbV (F_X3_clear (zgr t 7) M4) (fun M5 => zck (zbo 0) (zst (zup M5 t 14 0) (fun M6 => zst (zup M6 t 15 ((M6 t 15) + 1)) (fun M7 => zI 0 M7))))))) (zck (zin 0 3) (zck (zin 0 3) (zst (zup M2 (zgr t 13) (zix 0) ((M2 (zgr t 13) (zix 0)) + 1)) (fun M8 => zI r1 M8))))))) (k1 M))))
  refine ev_iload_n dd_X11_sea_0 1 rfl ?_
  refine ev_jo (fun (k1 : zM → zO) => ∀  (M9 : zM), zEv l G Y_X11_sea 184 0 15 [] [] M9 (k1 M9)) ?_ (fun k1 hk1 => ?_)
  · intro M9
    exact ev_throwS hl zTh_IAE sr_RX11_121 dd_X11_sea_15 dd_X11_sea_18 dd_X11_sea_19 dd_X11_sea_21 dd_X11_sea_24 (Nat.le_of_ble_eq_true rfl) (Nat.le_of_ble_eq_true rfl)
  · refine ev_if_lt 15 dd_X11_sea_1 (by decide) ?_ ?_
    · refine ev_lv (lv' := []) [] rfl ?_
      exact hk1 _
    · refine ev_iload_n dd_X11_sea_4 1 rfl ?_
      refine ev_aload_n dd_X11_sea_5 0 rfl ?_
      refine ev_getR gf_RX11_10 dd_X11_sea_6 ht (by decide) ?_
      refine ev_getI gf_RX11_116 dd_X11_sea_9 (zg_11_0 ht) (by decide) ?_
      refine ev_icmp_le 25 dd_X11_sea_12 (by decide) ?_ ?_
      · refine ev_aload_n dd_X11_sea_25 0 rfl ?_
        refine ev_getR gf_RX11_31 dd_X11_sea_26 ht (by decide) ?_
        refine ev_iload_n dd_X11_sea_29 1 rfl ?_
        refine ev_lv (lv' := [(0, .ref (G.2.1 + t))]) [0] rfl ?_
        refine ev_callVI (As := [.int a1]) cl_RX11_126 (ct_X7_read l hl G (zgr t 3) (zg_11_3 ht) a1 M) dd_X11_sea_30 (zg_11_3 ht) (by decide) (Nat.le_of_ble_eq_true rfl) (Nat.le_of_ble_eq_true rfl) rfl rfl (fun r1 M1 => ?_)
        refine ev_istore_n (i := 2) (lv' := [(0, .ref (G.2.1 + t)), (2, .int r1)]) [1, 0] dd_X11_sea_33 rfl (by decide) rfl ?_
        refine ev_aload_n dd_X11_sea_34 0 rfl ?_
        refine ev_getR gf_RX11_10 dd_X11_sea_35 ht (by decide) ?_
        refine ev_iconst (v := 0) dd_X11_sea_38 (by decide) ?_
        refine ev_putI gw_RX11_116 dd_X11_sea_39 (zg_11_0 ht) (by decide) ?_
        refine ev_st (fun M2 => ?_)
        refine ev_iload_n dd_X11_sea_42 1 rfl ?_
        refine ev_if_eq 58 dd_X11_sea_43 (by decide) ?_ ?_
        · refine ev_lv (lv' := [(0, .ref (G.2.1 + t))]) [0] rfl ?_
          refine ev_aload_n dd_X11_sea_58 0 rfl ?_
          refine ev_getR gf_RX11_19 dd_X11_sea_59 ht (by decide) ?_
          refine ev_aload_n dd_X11_sea_62 0 rfl ?_
          refine ev_getR gf_RX11_23 dd_X11_sea_63 ht (by decide) ?_
          refine ev_callVV (As := [.ref (G.2.1 + (zgr t 2))]) cl_RX11_130 (ct_X6_copy l hl G (zgr t 1) (zg_11_1 ht) (zgr t 2) (zg_11_2 ht) M2) dd_X11_sea_66 (zg_11_1 ht) (by decide) (Nat.le_of_ble_eq_true rfl) (Nat.le_of_ble_eq_true rfl) rfl rfl (fun M3 => ?_)
          refine ev_aload_n dd_X11_sea_69 0 rfl ?_
          refine ev_getR gf_RX11_40 dd_X11_sea_70 ht (by decide) ?_
          refine ev_callVV (As := []) cl_RX11_133 (ct_X10_begin l hl G (zgr t 4) (zg_11_4 ht) M3) dd_X11_sea_73 (zg_11_4 ht) (by decide) (Nat.le_of_ble_eq_true rfl) (Nat.le_of_ble_eq_true rfl) rfl rfl (fun M4 => ?_)
          refine ev_aload_n dd_X11_sea_76 0 rfl ?_
          refine ev_getR gf_RX11_53 dd_X11_sea_77 ht (by decide) ?_
          refine ev_callVV (As := []) cl_RX11_136 (ct_X3_clear l hl G (zgr t 7) (zg_11_7 ht) M4) dd_X11_sea_80 (zg_11_7 ht) (by decide) (Nat.le_of_ble_eq_true rfl) (Nat.le_of_ble_eq_true rfl) rfl rfl (fun M5 => ?_)
          refine ev_aload_n dd_X11_sea_83 0 rfl ?_
          refine ev_iconst (v := 0) dd_X11_sea_84 (by decide) ?_
          refine ev_putZ gw_RX11_100 dd_X11_sea_85 ht (by decide) ?_
          refine ev_st (fun M6 => ?_)
          refine ev_aload_n dd_X11_sea_88 0 rfl ?_
          refine ev_lv (lv' := []) [] rfl ?_
          refine ev_dup dd_X11_sea_89 rfl ?_
          refine ev_getI gf_RX11_104 dd_X11_sea_90 ht (by decide) ?_
          refine ev_iconst (v := 1) dd_X11_sea_93 (by decide) ?_
          refine ev_iadd dd_X11_sea_94 ?_
          refine ev_putI gw_RX11_104 dd_X11_sea_95 ht (by decide) ?_
          refine ev_st (fun M7 => ?_)
          refine ev_iconst (v := 0) dd_X11_sea_98 (by decide) ?_
          exact ev_iret dd_X11_sea_99 rfl (Nat.le_of_ble_eq_true rfl) rfl
        · refine ev_aload_n dd_X11_sea_46 0 rfl ?_
          refine ev_lv (lv' := [(2, .int r1)]) [1] rfl ?_
          refine ev_getR gf_RX11_96 dd_X11_sea_47 ht (by decide) ?_
          refine ev_iconst (v := 0) dd_X11_sea_50 (by decide) ?_
          refine ev_dup2 dd_X11_sea_51 rfl rfl ?_
          refine ev_iald dd_X11_sea_52 ((zg_11_13 ht).1) ((zg_11_13 ht).2) ?_
          refine ev_iconst (v := 1) dd_X11_sea_53 (by decide) ?_
          refine ev_iadd dd_X11_sea_54 ?_
          refine ev_iast dd_X11_sea_55 ((zg_11_13 ht).1) ((zg_11_13 ht).2) ?_
          refine ev_st (fun M8 => ?_)
          refine ev_iload_n dd_X11_sea_56 0 rfl ?_
          refine ev_lv (lv' := []) [] rfl ?_
          exact ev_iret dd_X11_sea_57 rfl (Nat.le_of_ble_eq_true rfl) rfl
      · refine ev_lv (lv' := []) [] rfl ?_
        exact hk1 _
/-! X3_addSeen -/
theorem dd_X3_addSeen_0 : decode Y_X3_addSeen.2.1 0 = .ok (.aload_n 0, 1) := by decide +kernel
theorem dd_X3_addSeen_1 : decode Y_X3_addSeen.2.1 1 = .ok (.getfield 15, 3) := by decide +kernel
theorem dd_X3_addSeen_4 : decode Y_X3_addSeen.2.1 4 = .ok (.bipush 8, 2) := by decide +kernel
theorem dd_X3_addSeen_6 : decode Y_X3_addSeen.2.1 6 = .ok (.if_icmp .ge 33, 3) := by decide +kernel
theorem dd_X3_addSeen_9 : decode Y_X3_addSeen.2.1 9 = .ok (.aload_n 0, 1) := by decide +kernel
theorem dd_X3_addSeen_10 : decode Y_X3_addSeen.2.1 10 = .ok (.getfield 31, 3) := by decide +kernel
theorem dd_X3_addSeen_13 : decode Y_X3_addSeen.2.1 13 = .ok (.aload_n 0, 1) := by decide +kernel
theorem dd_X3_addSeen_14 : decode Y_X3_addSeen.2.1 14 = .ok (.getfield 15, 3) := by decide +kernel
theorem dd_X3_addSeen_17 : decode Y_X3_addSeen.2.1 17 = .ok (.iload_n 1, 1) := by decide +kernel
theorem dd_X3_addSeen_18 : decode Y_X3_addSeen.2.1 18 = .ok (.iastore, 1) := by decide +kernel
theorem dd_X3_addSeen_19 : decode Y_X3_addSeen.2.1 19 = .ok (.aload_n 0, 1) := by decide +kernel
theorem dd_X3_addSeen_20 : decode Y_X3_addSeen.2.1 20 = .ok (.getfield 34, 3) := by decide +kernel
theorem dd_X3_addSeen_23 : decode Y_X3_addSeen.2.1 23 = .ok (.aload_n 0, 1) := by decide +kernel
theorem dd_X3_addSeen_24 : decode Y_X3_addSeen.2.1 24 = .ok (.getfield 15, 3) := by decide +kernel
theorem dd_X3_addSeen_27 : decode Y_X3_addSeen.2.1 27 = .ok (.iload_n 2, 1) := by decide +kernel
theorem dd_X3_addSeen_28 : decode Y_X3_addSeen.2.1 28 = .ok (.iastore, 1) := by decide +kernel
theorem dd_X3_addSeen_29 : decode Y_X3_addSeen.2.1 29 = .ok (.aload_n 0, 1) := by decide +kernel
theorem dd_X3_addSeen_30 : decode Y_X3_addSeen.2.1 30 = .ok (.dup, 1) := by decide +kernel
theorem dd_X3_addSeen_31 : decode Y_X3_addSeen.2.1 31 = .ok (.getfield 15, 3) := by decide +kernel
theorem dd_X3_addSeen_34 : decode Y_X3_addSeen.2.1 34 = .ok (.iconst 1, 1) := by decide +kernel
theorem dd_X3_addSeen_35 : decode Y_X3_addSeen.2.1 35 = .ok (.iadd, 1) := by decide +kernel
theorem dd_X3_addSeen_36 : decode Y_X3_addSeen.2.1 36 = .ok (.putfield 15, 3) := by decide +kernel
theorem dd_X3_addSeen_39 : decode Y_X3_addSeen.2.1 39 = .ok (.return_, 1) := by decide +kernel
def F_X3_addSeen (t : Nat) (a1 : Int32) (a2 : Int32) (M : zM) : zO := zjo (fun  (M4 : zM) => zV M4) (fun (k1 : zM → zO) => zit (8 ≤ (M t 1)) (k1 M) (zck (zin (M t 1) 8) (zst (zup M (zgr t 6) (zix (M t 1)) a1) (fun M1 => zck (zin (M1 t 1) 8) (zst (zup M1 (zgr t 7) (zix (M1 t 1)) a2) (fun M2 => zst (zup M2 t 1 ((M2 t 1) + 1)) (fun M3 => k1 M3)))))))
set_option maxHeartbeats 1000000 in
set_option maxRecDepth 20000 in
theorem ct_X3_addSeen (l : Launch) (hl : l.stackTraces = false) (G : zG) (t : Nat) (ht : zsh t = 3) (a1 : Int32) (a2 : Int32) (M : zM) : zMt l G Y_X3_addSeen 1 [.ref (G.2.1 + t), .int a1, .int a2] M (F_X3_addSeen t a1 a2 M) := by
  refine zMt_of (by decide +kernel) (Nat.le_of_ble_eq_true rfl) ?_
  show zEv l G Y_X3_addSeen 1 0 0 [(0, .ref (G.2.1 + t)), (1, .int a1), (2, .int a2)] [] M (zjo (fun  (M4 : zM) => zV M4) (fun (k1 : zM → zO) => zit (8 ≤ (M t 1)) (k1 M) (zck (zin (M t 1) 8) (zst (zup M (zgr t 6) (zix (M t 1)) a1) (fun M1 => zck (zin (M1 t 1) 8) (zst (zup M1 (zgr t 7) (zix (M1 t 1)) a2) (fun M2 => zst (zup M2 t 1 ((M2 t 1) + 1)) (fun M3 => k1 M3))))))))
  refine ev_aload_n dd_X3_addSeen_0 0 rfl ?_
  refine ev_getI gf_RX3_15 dd_X3_addSeen_1 ht (by decide) ?_
  refine ev_bipush (v := 8) dd_X3_addSeen_4 (by decide) ?_
  refine ev_jo (fun (k1 : zM → zO) => ∀  (M4 : zM), zEv l G Y_X3_addSeen 1 0 39 [] [] M4 (k1 M4)) ?_ (fun k1 hk1 => ?_)
  · intro M4
    exact ev_vret dd_X3_addSeen_39 rfl (Nat.le_of_ble_eq_true rfl) rfl
  · refine ev_icmp_ge 39 dd_X3_addSeen_6 (by decide) ?_ ?_
    · refine ev_lv (lv' := []) [] rfl ?_
      exact hk1 _
    · refine ev_aload_n dd_X3_addSeen_9 0 rfl ?_
      refine ev_getR gf_RX3_31 dd_X3_addSeen_10 ht (by decide) ?_
      refine ev_aload_n dd_X3_addSeen_13 0 rfl ?_
      refine ev_getI gf_RX3_15 dd_X3_addSeen_14 ht (by decide) ?_
      refine ev_iload_n dd_X3_addSeen_17 1 rfl ?_
      refine ev_lv (lv' := [(0, .ref (G.2.1 + t)), (2, .int a2)]) [0, 2] rfl ?_
      refine ev_iast dd_X3_addSeen_18 ((zg_3_6 ht).1) ((zg_3_6 ht).2) ?_
      refine ev_st (fun M1 => ?_)
      refine ev_aload_n dd_X3_addSeen_19 0 rfl ?_
      refine ev_getR gf_RX3_34 dd_X3_addSeen_20 ht (by decide) ?_
      refine ev_aload_n dd_X3_addSeen_23 0 rfl ?_
      refine ev_getI gf_RX3_15 dd_X3_addSeen_24 ht (by decide) ?_
      refine ev_iload_n dd_X3_addSeen_27 1 rfl ?_
      refine ev_lv (lv' := [(0, .ref (G.2.1 + t))]) [0] rfl ?_
      refine ev_iast dd_X3_addSeen_28 ((zg_3_7 ht).1) ((zg_3_7 ht).2) ?_
      refine ev_st (fun M2 => ?_)
      refine ev_aload_n dd_X3_addSeen_29 0 rfl ?_
      refine ev_lv (lv' := []) [] rfl ?_
      refine ev_dup dd_X3_addSeen_30 rfl ?_
      refine ev_getI gf_RX3_15 dd_X3_addSeen_31 ht (by decide) ?_
      refine ev_iconst (v := 1) dd_X3_addSeen_34 (by decide) ?_
      refine ev_iadd dd_X3_addSeen_35 ?_
      refine ev_putI gw_RX3_15 dd_X3_addSeen_36 ht (by decide) ?_
      refine ev_st (fun M3 => ?_)
      exact hk1 _
/-! X11_see -/
theorem dd_X11_see_0 : decode Y_X11_see.2.1 0 = .ok (.aload_n 0, 1) := by decide +kernel
theorem dd_X11_see_1 : decode Y_X11_see.2.1 1 = .ok (.iload_n 1, 1) := by decide +kernel
theorem dd_X11_see_2 : decode Y_X11_see.2.1 2 = .ok (.invokevirtual 203, 3) := by decide +kernel
theorem dd_X11_see_5 : decode Y_X11_see.2.1 5 = .ok (.aload_n 0, 1) := by decide +kernel
theorem dd_X11_see_6 : decode Y_X11_see.2.1 6 = .ok (.iload_n 2, 1) := by decide +kernel
theorem dd_X11_see_7 : decode Y_X11_see.2.1 7 = .ok (.invokevirtual 169, 3) := by decide +kernel
theorem dd_X11_see_10 : decode Y_X11_see.2.1 10 = .ok (.aload_n 0, 1) := by decide +kernel
theorem dd_X11_see_11 : decode Y_X11_see.2.1 11 = .ok (.getfield 53, 3) := by decide +kernel
theorem dd_X11_see_14 : decode Y_X11_see.2.1 14 = .ok (.getfield 157, 3) := by decide +kernel
theorem dd_X11_see_17 : decode Y_X11_see.2.1 17 = .ok (.bipush 8, 2) := by decide +kernel
theorem dd_X11_see_19 : decode Y_X11_see.2.1 19 = .ok (.if_icmp .lt 15, 3) := by decide +kernel
theorem dd_X11_see_22 : decode Y_X11_see.2.1 22 = .ok (.aload_n 0, 1) := by decide +kernel
theorem dd_X11_see_23 : decode Y_X11_see.2.1 23 = .ok (.getfield 96, 3) := by decide +kernel
theorem dd_X11_see_26 : decode Y_X11_see.2.1 26 = .ok (.iconst 2, 1) := by decide +kernel
theorem dd_X11_see_27 : decode Y_X11_see.2.1 27 = .ok (.dup2, 1) := by decide +kernel
theorem dd_X11_see_28 : decode Y_X11_see.2.1 28 = .ok (.iaload, 1) := by decide +kernel
theorem dd_X11_see_29 : decode Y_X11_see.2.1 29 = .ok (.iconst 1, 1) := by decide +kernel
theorem dd_X11_see_30 : decode Y_X11_see.2.1 30 = .ok (.iadd, 1) := by decide +kernel
theorem dd_X11_see_31 : decode Y_X11_see.2.1 31 = .ok (.iastore, 1) := by decide +kernel
theorem dd_X11_see_32 : decode Y_X11_see.2.1 32 = .ok (.iconst (-1), 1) := by decide +kernel
theorem dd_X11_see_33 : decode Y_X11_see.2.1 33 = .ok (.ireturn, 1) := by decide +kernel
theorem dd_X11_see_34 : decode Y_X11_see.2.1 34 = .ok (.aload_n 0, 1) := by decide +kernel
theorem dd_X11_see_35 : decode Y_X11_see.2.1 35 = .ok (.dup, 1) := by decide +kernel
theorem dd_X11_see_36 : decode Y_X11_see.2.1 36 = .ok (.getfield 104, 3) := by decide +kernel
theorem dd_X11_see_39 : decode Y_X11_see.2.1 39 = .ok (.iconst 1, 1) := by decide +kernel
theorem dd_X11_see_40 : decode Y_X11_see.2.1 40 = .ok (.iadd, 1) := by decide +kernel
theorem dd_X11_see_41 : decode Y_X11_see.2.1 41 = .ok (.putfield 104, 3) := by decide +kernel
theorem dd_X11_see_44 : decode Y_X11_see.2.1 44 = .ok (.aload_n 0, 1) := by decide +kernel
theorem dd_X11_see_45 : decode Y_X11_see.2.1 45 = .ok (.getfield 53, 3) := by decide +kernel
theorem dd_X11_see_48 : decode Y_X11_see.2.1 48 = .ok (.iload_n 1, 1) := by decide +kernel
theorem dd_X11_see_49 : decode Y_X11_see.2.1 49 = .ok (.iload_n 2, 1) := by decide +kernel
theorem dd_X11_see_50 : decode Y_X11_see.2.1 50 = .ok (.invokevirtual 335, 3) := by decide +kernel
theorem dd_X11_see_53 : decode Y_X11_see.2.1 53 = .ok (.aload_n 0, 1) := by decide +kernel
theorem dd_X11_see_54 : decode Y_X11_see.2.1 54 = .ok (.getfield 53, 3) := by decide +kernel
theorem dd_X11_see_57 : decode Y_X11_see.2.1 57 = .ok (.getfield 157, 3) := by decide +kernel
theorem dd_X11_see_60 : decode Y_X11_see.2.1 60 = .ok (.ireturn, 1) := by decide +kernel
def F_X11_see (t : Nat) (a1 : Int32) (a2 : Int32) (M : zM) : zO := zbV (F_X11_needIsle t a1 M) (fun M1 => zbV (F_X11_needName t a2 M1) (fun M2 => zit ((M2 (zgr t 7) 1) < 8) (zst (zup M2 t 15 ((M2 t 15) + 1)) (fun M3 => zbV (F_X3_addSeen (zgr t 7) a1 a2 M3) (fun M4 => zI (M4 (zgr t 7) 1) M4))) (zck (zin 2 3) (zck (zin 2 3) (zst (zup M2 (zgr t 13) (zix 2) ((M2 (zgr t 13) (zix 2)) + 1)) (fun M5 => zI (-1) M5))))))
set_option maxHeartbeats 1000000 in
set_option maxRecDepth 20000 in
theorem ct_X11_see (l : Launch) (hl : l.stackTraces = false) (G : zG) (t : Nat) (ht : zsh t = 11) (a1 : Int32) (a2 : Int32) (M : zM) : zMt l G Y_X11_see 2 [.ref (G.2.1 + t), .int a1, .int a2] M (F_X11_see t a1 a2 M) := by
  refine zMt_of (by decide +kernel) (Nat.le_of_ble_eq_true rfl) ?_
  show zEv l G Y_X11_see 2 0 0 [(0, .ref (G.2.1 + t)), (1, .int a1), (2, .int a2)] [] M (zbV (F_X11_needIsle t a1 M) (fun M1 => zbV (F_X11_needName t a2 M1) (fun M2 => zit ((M2 (zgr t 7) 1) < 8) (zst (zup M2 t 15 ((M2 t 15) + 1)) (fun M3 => zbV (F_X3_addSeen (zgr t 7) a1 a2 M3) (fun M4 => zI (M4 (zgr t 7) 1) M4))) (zck (zin 2 3) (zck (zin 2 3) (zst (zup M2 (zgr t 13) (zix 2) ((M2 (zgr t 13) (zix 2)) + 1)) (fun M5 => zI (-1) M5)))))))
  refine ev_aload_n dd_X11_see_0 0 rfl ?_
  refine ev_iload_n dd_X11_see_1 1 rfl ?_
  refine ev_callVV (As := [.int a1]) cl_RX11_203 (ct_X11_needIsle l hl G t ht a1 M) dd_X11_see_2 ht (by decide) (Nat.le_of_ble_eq_true rfl) (Nat.le_of_ble_eq_true rfl) rfl rfl (fun M1 => ?_)
  refine ev_aload_n dd_X11_see_5 0 rfl ?_
  refine ev_iload_n dd_X11_see_6 2 rfl ?_
  refine ev_callVV (As := [.int a2]) cl_RX11_169 (ct_X11_needName l hl G t ht a2 M1) dd_X11_see_7 ht (by decide) (Nat.le_of_ble_eq_true rfl) (Nat.le_of_ble_eq_true rfl) rfl rfl (fun M2 => ?_)
  refine ev_aload_n dd_X11_see_10 0 rfl ?_
  refine ev_getR gf_RX11_53 dd_X11_see_11 ht (by decide) ?_
  refine ev_getI gf_RX11_157 dd_X11_see_14 (zg_11_7 ht) (by decide) ?_
  refine ev_bipush (v := 8) dd_X11_see_17 (by decide) ?_
  refine ev_icmp_lt 34 dd_X11_see_19 (by decide) ?_ ?_
  · refine ev_aload_n dd_X11_see_34 0 rfl ?_
    refine ev_dup dd_X11_see_35 rfl ?_
    refine ev_getI gf_RX11_104 dd_X11_see_36 ht (by decide) ?_
    refine ev_iconst (v := 1) dd_X11_see_39 (by decide) ?_
    refine ev_iadd dd_X11_see_40 ?_
    refine ev_putI gw_RX11_104 dd_X11_see_41 ht (by decide) ?_
    refine ev_st (fun M3 => ?_)
    refine ev_aload_n dd_X11_see_44 0 rfl ?_
    refine ev_getR gf_RX11_53 dd_X11_see_45 ht (by decide) ?_
    refine ev_iload_n dd_X11_see_48 1 rfl ?_
    refine ev_lv (lv' := [(0, .ref (G.2.1 + t)), (2, .int a2)]) [0, 2] rfl ?_
    refine ev_iload_n dd_X11_see_49 1 rfl ?_
    refine ev_lv (lv' := [(0, .ref (G.2.1 + t))]) [0] rfl ?_
    refine ev_callVV (As := [.int a1, .int a2]) cl_RX11_335 (ct_X3_addSeen l hl G (zgr t 7) (zg_11_7 ht) a1 a2 M3) dd_X11_see_50 (zg_11_7 ht) (by decide) (Nat.le_of_ble_eq_true rfl) (Nat.le_of_ble_eq_true rfl) rfl rfl (fun M4 => ?_)
    refine ev_aload_n dd_X11_see_53 0 rfl ?_
    refine ev_lv (lv' := []) [] rfl ?_
    refine ev_getR gf_RX11_53 dd_X11_see_54 ht (by decide) ?_
    refine ev_getI gf_RX11_157 dd_X11_see_57 (zg_11_7 ht) (by decide) ?_
    exact ev_iret dd_X11_see_60 rfl (Nat.le_of_ble_eq_true rfl) rfl
  · refine ev_lv (lv' := [(0, .ref (G.2.1 + t))]) [0] rfl ?_
    refine ev_aload_n dd_X11_see_22 0 rfl ?_
    refine ev_lv (lv' := []) [] rfl ?_
    refine ev_getR gf_RX11_96 dd_X11_see_23 ht (by decide) ?_
    refine ev_iconst (v := 2) dd_X11_see_26 (by decide) ?_
    refine ev_dup2 dd_X11_see_27 rfl rfl ?_
    refine ev_iald dd_X11_see_28 ((zg_11_13 ht).1) ((zg_11_13 ht).2) ?_
    refine ev_iconst (v := 1) dd_X11_see_29 (by decide) ?_
    refine ev_iadd dd_X11_see_30 ?_
    refine ev_iast dd_X11_see_31 ((zg_11_13 ht).1) ((zg_11_13 ht).2) ?_
    refine ev_st (fun M5 => ?_)
    refine ev_iconst (v := (-1)) dd_X11_see_32 (by decide) ?_
    exact ev_iret dd_X11_see_33 rfl (Nat.le_of_ble_eq_true rfl) rfl
/-! X11_ship -/
theorem dd_X11_ship_0 : decode Y_X11_ship.2.1 0 = .ok (.aload_n 0, 1) := by decide +kernel
theorem dd_X11_ship_1 : decode Y_X11_ship.2.1 1 = .ok (.iload_n 3, 1) := by decide +kernel
theorem dd_X11_ship_2 : decode Y_X11_ship.2.1 2 = .ok (.invokevirtual 203, 3) := by decide +kernel
theorem dd_X11_ship_5 : decode Y_X11_ship.2.1 5 = .ok (.iload_n 1, 1) := by decide +kernel
theorem dd_X11_ship_6 : decode Y_X11_ship.2.1 6 = .ok (.iload_n 2, 1) := by decide +kernel
theorem dd_X11_ship_7 : decode Y_X11_ship.2.1 7 = .ok (.invokestatic 288, 3) := by decide +kernel
theorem dd_X11_ship_10 : decode Y_X11_ship.2.1 10 = .ok (.aload_n 0, 1) := by decide +kernel
theorem dd_X11_ship_11 : decode Y_X11_ship.2.1 11 = .ok (.getfield 44, 3) := by decide +kernel
theorem dd_X11_ship_14 : decode Y_X11_ship.2.1 14 = .ok (.aload_n 0, 1) := by decide +kernel
theorem dd_X11_ship_15 : decode Y_X11_ship.2.1 15 = .ok (.getfield 40, 3) := by decide +kernel
theorem dd_X11_ship_18 : decode Y_X11_ship.2.1 18 = .ok (.invokevirtual 291, 3) := by decide +kernel
theorem dd_X11_ship_21 : decode Y_X11_ship.2.1 21 = .ok (.aload_n 0, 1) := by decide +kernel
theorem dd_X11_ship_22 : decode Y_X11_ship.2.1 22 = .ok (.iload_n 1, 1) := by decide +kernel
theorem dd_X11_ship_23 : decode Y_X11_ship.2.1 23 = .ok (.iload_n 2, 1) := by decide +kernel
theorem dd_X11_ship_24 : decode Y_X11_ship.2.1 24 = .ok (.iload_n 3, 1) := by decide +kernel
theorem dd_X11_ship_25 : decode Y_X11_ship.2.1 25 = .ok (.invokevirtual 293, 3) := by decide +kernel
theorem dd_X11_ship_28 : decode Y_X11_ship.2.1 28 = .ok (.ireturn, 1) := by decide +kernel
def F_X11_ship (t : Nat) (a1 : Int32) (a2 : Int32) (a3 : Int32) (M : zM) : zO := zbV (F_X11_needIsle t a3 M) (fun M1 => zbV (F_X11_needPlace a1 a2 M1) (fun M2 => zbV (F_X10_copy (zgr t 5) (zgr t 4) M2) (fun M3 => zbI (F_X11_sail t a1 a2 a3 M3) (fun r1 M4 => zI r1 M4))))
set_option maxHeartbeats 1000000 in
set_option maxRecDepth 20000 in
theorem ct_X11_ship (l : Launch) (hl : l.stackTraces = false) (G : zG) (t : Nat) (ht : zsh t = 11) (a1 : Int32) (a2 : Int32) (a3 : Int32) (M : zM) : zMt l G Y_X11_ship 14 [.ref (G.2.1 + t), .int a1, .int a2, .int a3] M (F_X11_ship t a1 a2 a3 M) := by
  refine zMt_of (by decide +kernel) (Nat.le_of_ble_eq_true rfl) ?_
  show zEv l G Y_X11_ship 14 0 0 [(0, .ref (G.2.1 + t)), (1, .int a1), (2, .int a2), (3, .int a3)] [] M (zbV (F_X11_needIsle t a3 M) (fun M1 => zbV (F_X11_needPlace a1 a2 M1) (fun M2 => zbV (F_X10_copy (zgr t 5) (zgr t 4) M2) (fun M3 => zbI (F_X11_sail t a1 a2 a3 M3) (fun r1 M4 => zI r1 M4)))))
  refine ev_aload_n dd_X11_ship_0 0 rfl ?_
  refine ev_iload_n dd_X11_ship_1 3 rfl ?_
  refine ev_callVV (As := [.int a3]) cl_RX11_203 (ct_X11_needIsle l hl G t ht a3 M) dd_X11_ship_2 ht (by decide) (Nat.le_of_ble_eq_true rfl) (Nat.le_of_ble_eq_true rfl) rfl rfl (fun M1 => ?_)
  refine ev_iload_n dd_X11_ship_5 1 rfl ?_
  refine ev_iload_n dd_X11_ship_6 2 rfl ?_
  refine ev_callSV (As := [.int a1, .int a2]) cl_RX11_288 (ct_X11_needPlace l hl G a1 a2 M1) dd_X11_ship_7 (by decide) (Nat.le_of_ble_eq_true rfl) (Nat.le_of_ble_eq_true rfl) rfl rfl (fun M2 => ?_)
  refine ev_aload_n dd_X11_ship_10 0 rfl ?_
  refine ev_getR gf_RX11_44 dd_X11_ship_11 ht (by decide) ?_
  refine ev_aload_n dd_X11_ship_14 0 rfl ?_
  refine ev_getR gf_RX11_40 dd_X11_ship_15 ht (by decide) ?_
  refine ev_callVV (As := [.ref (G.2.1 + (zgr t 4))]) cl_RX11_291 (ct_X10_copy l hl G (zgr t 5) (zg_11_5 ht) (zgr t 4) (zg_11_4 ht) M2) dd_X11_ship_18 (zg_11_5 ht) (by decide) (Nat.le_of_ble_eq_true rfl) (Nat.le_of_ble_eq_true rfl) rfl rfl (fun M3 => ?_)
  refine ev_aload_n dd_X11_ship_21 0 rfl ?_
  refine ev_lv (lv' := [(1, .int a1), (2, .int a2), (3, .int a3)]) [1, 2, 3] rfl ?_
  refine ev_iload_n dd_X11_ship_22 0 rfl ?_
  refine ev_lv (lv' := [(2, .int a2), (3, .int a3)]) [1, 2] rfl ?_
  refine ev_iload_n dd_X11_ship_23 0 rfl ?_
  refine ev_lv (lv' := [(3, .int a3)]) [1] rfl ?_
  refine ev_iload_n dd_X11_ship_24 0 rfl ?_
  refine ev_lv (lv' := []) [] rfl ?_
  refine ev_callVI (As := [.int a1, .int a2, .int a3]) cl_RX11_293 (ct_X11_sail l hl G t ht a1 a2 a3 M3) dd_X11_ship_25 ht (by decide) (Nat.le_of_ble_eq_true rfl) (Nat.le_of_ble_eq_true rfl) rfl rfl (fun r1 M4 => ?_)
  exact ev_iret dd_X11_ship_28 rfl (Nat.le_of_ble_eq_true rfl) rfl
/-! X9_lay -/
theorem dd_X9_lay_0 : decode Y_X9_lay.2.1 0 = .ok (.iload_n 1, 1) := by decide +kernel
theorem dd_X9_lay_1 : decode Y_X9_lay.2.1 1 = .ok (.ifCond .eq 8, 3) := by decide +kernel
theorem dd_X9_lay_4 : decode Y_X9_lay.2.1 4 = .ok (.iload_n 2, 1) := by decide +kernel
theorem dd_X9_lay_5 : decode Y_X9_lay.2.1 5 = .ok (.iconst 5, 1) := by decide +kernel
theorem dd_X9_lay_6 : decode Y_X9_lay.2.1 6 = .ok (.if_icmp .lt 36, 3) := by decide +kernel
theorem dd_X9_lay_9 : decode Y_X9_lay.2.1 9 = .ok (.iload_n 3, 1) := by decide +kernel
theorem dd_X9_lay_10 : decode Y_X9_lay.2.1 10 = .ok (.aload_n 0, 1) := by decide +kernel
theorem dd_X9_lay_11 : decode Y_X9_lay.2.1 11 = .ok (.getfield 29, 3) := by decide +kernel
theorem dd_X9_lay_14 : decode Y_X9_lay.2.1 14 = .ok (.if_icmp .ge 27, 3) := by decide +kernel
theorem dd_X9_lay_17 : decode Y_X9_lay.2.1 17 = .ok (.aload_n 0, 1) := by decide +kernel
theorem dd_X9_lay_18 : decode Y_X9_lay.2.1 18 = .ok (.iload_n 3, 1) := by decide +kernel
theorem dd_X9_lay_19 : decode Y_X9_lay.2.1 19 = .ok (.putfield 29, 3) := by decide +kernel
theorem dd_X9_lay_22 : decode Y_X9_lay.2.1 22 = .ok (.aload_n 0, 1) := by decide +kernel
theorem dd_X9_lay_23 : decode Y_X9_lay.2.1 23 = .ok (.iload_n 2, 1) := by decide +kernel
theorem dd_X9_lay_24 : decode Y_X9_lay.2.1 24 = .ok (.putfield 25, 3) := by decide +kernel
theorem dd_X9_lay_27 : decode Y_X9_lay.2.1 27 = .ok (.aload_n 0, 1) := by decide +kernel
theorem dd_X9_lay_28 : decode Y_X9_lay.2.1 28 = .ok (.getfield 19, 3) := by decide +kernel
theorem dd_X9_lay_31 : decode Y_X9_lay.2.1 31 = .ok (.iconst 0, 1) := by decide +kernel
theorem dd_X9_lay_32 : decode Y_X9_lay.2.1 32 = .ok (.aload_n 0, 1) := by decide +kernel
theorem dd_X9_lay_33 : decode Y_X9_lay.2.1 33 = .ok (.getfield 22, 3) := by decide +kernel
theorem dd_X9_lay_36 : decode Y_X9_lay.2.1 36 = .ok (.iconst 0, 1) := by decide +kernel
theorem dd_X9_lay_37 : decode Y_X9_lay.2.1 37 = .ok (.iconst 5, 1) := by decide +kernel
theorem dd_X9_lay_38 : decode Y_X9_lay.2.1 38 = .ok (.invokestatic 32, 3) := by decide +kernel
theorem dd_X9_lay_41 : decode Y_X9_lay.2.1 41 = .ok (.return_, 1) := by decide +kernel
theorem dd_X9_lay_42 : decode Y_X9_lay.2.1 42 = .ok (.iconst 0, 1) := by decide +kernel
theorem dd_X9_lay_43 : decode Y_X9_lay.2.1 43 = .ok (.istore 4, 2) := by decide +kernel
theorem dd_X9_lay_45 : decode Y_X9_lay.2.1 45 = .ok (.iload 4, 2) := by decide +kernel
theorem dd_X9_lay_47 : decode Y_X9_lay.2.1 47 = .ok (.bipush 8, 2) := by decide +kernel
theorem dd_X9_lay_49 : decode Y_X9_lay.2.1 49 = .ok (.if_icmp .ge 78, 3) := by decide +kernel
theorem dd_X9_lay_52 : decode Y_X9_lay.2.1 52 = .ok (.iload_n 1, 1) := by decide +kernel
theorem dd_X9_lay_53 : decode Y_X9_lay.2.1 53 = .ok (.iload 4, 2) := by decide +kernel
theorem dd_X9_lay_55 : decode Y_X9_lay.2.1 55 = .ok (.ishr, 1) := by decide +kernel
theorem dd_X9_lay_56 : decode Y_X9_lay.2.1 56 = .ok (.iconst 1, 1) := by decide +kernel
theorem dd_X9_lay_57 : decode Y_X9_lay.2.1 57 = .ok (.iand, 1) := by decide +kernel
theorem dd_X9_lay_58 : decode Y_X9_lay.2.1 58 = .ok (.iconst 1, 1) := by decide +kernel
theorem dd_X9_lay_59 : decode Y_X9_lay.2.1 59 = .ok (.if_icmp .ne 62, 3) := by decide +kernel
theorem dd_X9_lay_62 : decode Y_X9_lay.2.1 62 = .ok (.aload_n 0, 1) := by decide +kernel
theorem dd_X9_lay_63 : decode Y_X9_lay.2.1 63 = .ok (.getfield 19, 3) := by decide +kernel
theorem dd_X9_lay_66 : decode Y_X9_lay.2.1 66 = .ok (.iload_n 2, 1) := by decide +kernel
theorem dd_X9_lay_67 : decode Y_X9_lay.2.1 67 = .ok (.iload 4, 2) := by decide +kernel
theorem dd_X9_lay_69 : decode Y_X9_lay.2.1 69 = .ok (.iastore, 1) := by decide +kernel
theorem dd_X9_lay_70 : decode Y_X9_lay.2.1 70 = .ok (.iload_n 2, 1) := by decide +kernel
theorem dd_X9_lay_71 : decode Y_X9_lay.2.1 71 = .ok (.ifCond .ne 7, 3) := by decide +kernel
theorem dd_X9_lay_74 : decode Y_X9_lay.2.1 74 = .ok (.iconst 0, 1) := by decide +kernel
theorem dd_X9_lay_75 : decode Y_X9_lay.2.1 75 = .ok (.goto 17, 3) := by decide +kernel
theorem dd_X9_lay_78 : decode Y_X9_lay.2.1 78 = .ok (.aload_n 0, 1) := by decide +kernel
theorem dd_X9_lay_79 : decode Y_X9_lay.2.1 79 = .ok (.aload_n 0, 1) := by decide +kernel
theorem dd_X9_lay_80 : decode Y_X9_lay.2.1 80 = .ok (.getfield 19, 3) := by decide +kernel
theorem dd_X9_lay_83 : decode Y_X9_lay.2.1 83 = .ok (.iload_n 2, 1) := by decide +kernel
theorem dd_X9_lay_84 : decode Y_X9_lay.2.1 84 = .ok (.iconst 1, 1) := by decide +kernel
theorem dd_X9_lay_85 : decode Y_X9_lay.2.1 85 = .ok (.isub, 1) := by decide +kernel
theorem dd_X9_lay_86 : decode Y_X9_lay.2.1 86 = .ok (.iaload, 1) := by decide +kernel
theorem dd_X9_lay_87 : decode Y_X9_lay.2.1 87 = .ok (.iload 4, 2) := by decide +kernel
theorem dd_X9_lay_89 : decode Y_X9_lay.2.1 89 = .ok (.invokevirtual 64, 3) := by decide +kernel
theorem dd_X9_lay_92 : decode Y_X9_lay.2.1 92 = .ok (.istore 5, 2) := by decide +kernel
theorem dd_X9_lay_94 : decode Y_X9_lay.2.1 94 = .ok (.aload_n 0, 1) := by decide +kernel
theorem dd_X9_lay_95 : decode Y_X9_lay.2.1 95 = .ok (.iload_n 1, 1) := by decide +kernel
theorem dd_X9_lay_96 : decode Y_X9_lay.2.1 96 = .ok (.iconst 1, 1) := by decide +kernel
theorem dd_X9_lay_97 : decode Y_X9_lay.2.1 97 = .ok (.iload 4, 2) := by decide +kernel
theorem dd_X9_lay_99 : decode Y_X9_lay.2.1 99 = .ok (.ishl, 1) := by decide +kernel
theorem dd_X9_lay_100 : decode Y_X9_lay.2.1 100 = .ok (.iconst (-1), 1) := by decide +kernel
theorem dd_X9_lay_101 : decode Y_X9_lay.2.1 101 = .ok (.ixor, 1) := by decide +kernel
theorem dd_X9_lay_102 : decode Y_X9_lay.2.1 102 = .ok (.iand, 1) := by decide +kernel
theorem dd_X9_lay_103 : decode Y_X9_lay.2.1 103 = .ok (.iload_n 2, 1) := by decide +kernel
theorem dd_X9_lay_104 : decode Y_X9_lay.2.1 104 = .ok (.iconst 1, 1) := by decide +kernel
theorem dd_X9_lay_105 : decode Y_X9_lay.2.1 105 = .ok (.iadd, 1) := by decide +kernel
theorem dd_X9_lay_106 : decode Y_X9_lay.2.1 106 = .ok (.iload_n 3, 1) := by decide +kernel
theorem dd_X9_lay_107 : decode Y_X9_lay.2.1 107 = .ok (.aload_n 0, 1) := by decide +kernel
theorem dd_X9_lay_108 : decode Y_X9_lay.2.1 108 = .ok (.getfield 15, 3) := by decide +kernel
theorem dd_X9_lay_111 : decode Y_X9_lay.2.1 111 = .ok (.iload 4, 2) := by decide +kernel
theorem dd_X9_lay_113 : decode Y_X9_lay.2.1 113 = .ok (.iaload, 1) := by decide +kernel
theorem dd_X9_lay_114 : decode Y_X9_lay.2.1 114 = .ok (.iadd, 1) := by decide +kernel
theorem dd_X9_lay_115 : decode Y_X9_lay.2.1 115 = .ok (.iload 5, 2) := by decide +kernel
theorem dd_X9_lay_117 : decode Y_X9_lay.2.1 117 = .ok (.isub, 1) := by decide +kernel
theorem dd_X9_lay_118 : decode Y_X9_lay.2.1 118 = .ok (.invokevirtual 70, 3) := by decide +kernel
theorem dd_X9_lay_121 : decode Y_X9_lay.2.1 121 = .ok (.iinc 4 1, 3) := by decide +kernel
theorem dd_X9_lay_124 : decode Y_X9_lay.2.1 124 = .ok (.goto (-79), 3) := by decide +kernel
theorem dd_X9_lay_127 : decode Y_X9_lay.2.1 127 = .ok (.return_, 1) := by decide +kernel
def F_X9_lay_L45 (R : Nat → Int32 → Int32 → Int32 → zM → zO) (x0 : Nat) (x1 : Int32) (x2 : Int32) (x3 : Int32) (K127 : zM → zO) : Nat → Int32 → zM → zO
  | 0, _, _ => none
  | n + 1, x4, M => zit (8 ≤ x4) (K127 M) (zjo (fun  (M5 : zM) => F_X9_lay_L45 R x0 x1 x2 x3 K127 n (x4 + 1) M5) (fun (k2 : zM → zO) => zit (((x1 >>> (x4 &&& 31)) &&& 1) = 1) (zck (zin x2 5) (zst (zup M (zgr x0 2) (zix x2) x4) (fun M1 => zjo (fun (w1 : Int32) (M3 : zM) => zck (zin x4 8) (zbV (R x0 (x1 &&& (((1 : Int32) <<< (x4 &&& 31)) ^^^ (-1))) (x2 + 1) ((x3 + (M3 (zgr x0 1) (zix x4))) - w1) M3) (fun M4 => k2 M4))) (fun (k3 : Int32 → zM → zO) => zit (x2 = 0) (k3 0 M1) (zck (zin (x2 - 1) 5) (zbI (F_X9_overlap x0 (M1 (zgr x0 2) (zix (x2 - 1))) x4 M1) (fun r1 M2 => k3 r1 M2))))))) (k2 M)))
def F_X9_lay (R : Nat → Int32 → Int32 → Int32 → zM → zO) (t : Nat) (a1 : Int32) (a2 : Int32) (a3 : Int32) (M : zM) : zO := zjo (fun  (M7 : zM) => zjo (fun  (M11 : zM) => zV M11) (fun (k4 : zM → zO) => zit ((M7 t 5) ≤ a3) (k4 M7) (zst (zup M7 t 5 a3) (fun M8 => zst (zup M8 t 4 a2) (fun M9 => zck (zcpk 0 0 5 5 5) (zst (zupA M9 (zgr t 3) (va_cpy (M9 (zgr t 2)) (M9 (zgr t 3)) (zix 0) (zix 0) (zix 5))) (fun M10 => k4 M10))))))) (fun (k1 : zM → zO) => zit (a1 = 0) (k1 M) (zit (a2 < 5) (F_X9_lay_L45 R t a1 a2 a3 (fun  (M6 : zM) => zV M6) zN 0 M) (k1 M)))
def Fr_X9_lay : Nat → Nat → Int32 → Int32 → Int32 → zM → zO
  | 0, _, _, _, _, _ => none
  | n + 1, t, a1, a2, a3, M => F_X9_lay (Fr_X9_lay n) t a1 a2 a3 M
set_option maxHeartbeats 1000000 in
set_option maxRecDepth 20000 in
theorem ct_X9_lay_L45 (l : Launch) (hl : l.stackTraces = false) (G : zG) (D : Nat) (R : Nat → Int32 → Int32 → Int32 → zM → zO) (hR : ∀ (t : Nat) (ht : zsh t = 9) (a1 : Int32) (a2 : Int32) (a3 : Int32) (M : zM), zMt l G Y_X9_lay D [.ref (G.2.1 + t), .int a1, .int a2, .int a3] M (R t a1 a2 a3 M)) (x0 : Nat) (hx0 : zsh x0 = 9) (x1 : Int32) (x2 : Int32) (x3 : Int32) (K127 : zM → zO) (hK127 : ∀  (M : zM), zEv l G Y_X9_lay (D + 9) 0 127 [] [] M (K127 M)) : ∀ (n : Nat) (x4 : Int32) (M : zM), zEv l G Y_X9_lay (D + 9) 0 45 [(0, .ref (G.2.1 + x0)), (1, .int x1), (2, .int x2), (3, .int x3), (4, .int x4)] [] M (F_X9_lay_L45 R x0 x1 x2 x3 K127 n x4 M) := by
  intro n
  induction n with
  | zero => intro x4 M; exact ev_none
  | succ n ih =>
    intro x4 M
    show zEv l G Y_X9_lay (D + 9) 0 45 [(0, .ref (G.2.1 + x0)), (1, .int x1), (2, .int x2), (3, .int x3), (4, .int x4)] [] M (zit (8 ≤ x4) (K127 M) (zjo (fun  (M5 : zM) => F_X9_lay_L45 R x0 x1 x2 x3 K127 n (x4 + 1) M5) (fun (k2 : zM → zO) => zit (((x1 >>> (x4 &&& 31)) &&& 1) = 1) (zck (zin x2 5) (zst (zup M (zgr x0 2) (zix x2) x4) (fun M1 => zjo (fun (w1 : Int32) (M3 : zM) => zck (zin x4 8) (zbV (R x0 (x1 &&& (((1 : Int32) <<< (x4 &&& 31)) ^^^ (-1))) (x2 + 1) ((x3 + (M3 (zgr x0 1) (zix x4))) - w1) M3) (fun M4 => k2 M4))) (fun (k3 : Int32 → zM → zO) => zit (x2 = 0) (k3 0 M1) (zck (zin (x2 - 1) 5) (zbI (F_X9_overlap x0 (M1 (zgr x0 2) (zix (x2 - 1))) x4 M1) (fun r1 M2 => k3 r1 M2))))))) (k2 M))))
    refine ev_iload dd_X9_lay_45 4 rfl ?_
    refine ev_bipush (v := 8) dd_X9_lay_47 (by decide) ?_
    refine ev_icmp_ge 127 dd_X9_lay_49 (by decide) ?_ ?_
    · refine ev_lv (lv' := []) [] rfl ?_
      exact hK127 _
    · refine ev_iload_n dd_X9_lay_52 1 rfl ?_
      refine ev_iload dd_X9_lay_53 4 rfl ?_
      refine ev_ishr dd_X9_lay_55 ?_
      refine ev_iconst (v := 1) dd_X9_lay_56 (by decide) ?_
      refine ev_iand dd_X9_lay_57 ?_
      refine ev_iconst (v := 1) dd_X9_lay_58 (by decide) ?_
      refine ev_jo (fun (k2 : zM → zO) => ∀  (M5 : zM), zEv l G Y_X9_lay (D + 9) 0 121 [(0, .ref (G.2.1 + x0)), (1, .int x1), (2, .int x2), (3, .int x3), (4, .int x4)] [] M5 (k2 M5)) ?_ (fun k2 hk2 => ?_)
      · intro M5
        refine ev_iinc (j := 4) (v := 1) (lv' := [(0, .ref (G.2.1 + x0)), (1, .int x1), (2, .int x2), (3, .int x3), (4, .int (x4 + 1))]) [1, 2, 3, 4, 0] dd_X9_lay_121 rfl (by decide) (by decide) rfl ?_
        refine ev_goto 45 dd_X9_lay_124 (by decide) ?_
        exact ih _ _
      · refine ev_icmp_ne 121 dd_X9_lay_59 (by decide) ?_ ?_
        · exact hk2 _
        · refine ev_aload_n dd_X9_lay_62 0 rfl ?_
          refine ev_getR gf_RX9_19 dd_X9_lay_63 hx0 (by decide) ?_
          refine ev_iload_n dd_X9_lay_66 2 rfl ?_
          refine ev_iload dd_X9_lay_67 4 rfl ?_
          refine ev_iast dd_X9_lay_69 ((zg_9_2 hx0).1) ((zg_9_2 hx0).2) ?_
          refine ev_st (fun M1 => ?_)
          refine ev_iload_n dd_X9_lay_70 2 rfl ?_
          refine ev_jo (fun (k3 : Int32 → zM → zO) => ∀ (w1 : Int32) (M3 : zM), zEv l G Y_X9_lay (D + 9) 0 92 [(0, .ref (G.2.1 + x0)), (1, .int x1), (2, .int x2), (3, .int x3), (4, .int x4)] [.int w1] M3 (k3 w1 M3)) ?_ (fun k3 hk3 => ?_)
          · intro w1 M3
            refine ev_istore (i := 5) (lv' := [(0, .ref (G.2.1 + x0)), (1, .int x1), (2, .int x2), (3, .int x3), (4, .int x4), (5, .int w1)]) [1, 2, 3, 4, 5, 0] dd_X9_lay_92 (by decide) rfl ?_
            refine ev_aload_n dd_X9_lay_94 0 rfl ?_
            refine ev_iload_n dd_X9_lay_95 1 rfl ?_
            refine ev_iconst (v := 1) dd_X9_lay_96 (by decide) ?_
            refine ev_iload dd_X9_lay_97 4 rfl ?_
            refine ev_ishl dd_X9_lay_99 ?_
            refine ev_iconst (v := (-1)) dd_X9_lay_100 (by decide) ?_
            refine ev_ixor dd_X9_lay_101 ?_
            refine ev_iand dd_X9_lay_102 ?_
            refine ev_iload_n dd_X9_lay_103 2 rfl ?_
            refine ev_iconst (v := 1) dd_X9_lay_104 (by decide) ?_
            refine ev_iadd dd_X9_lay_105 ?_
            refine ev_iload_n dd_X9_lay_106 3 rfl ?_
            refine ev_aload_n dd_X9_lay_107 0 rfl ?_
            refine ev_getR gf_RX9_15 dd_X9_lay_108 hx0 (by decide) ?_
            refine ev_iload dd_X9_lay_111 4 rfl ?_
            refine ev_iald dd_X9_lay_113 ((zg_9_1 hx0).1) ((zg_9_1 hx0).2) ?_
            refine ev_iadd dd_X9_lay_114 ?_
            refine ev_iload dd_X9_lay_115 5 rfl ?_
            refine ev_lv (lv' := [(0, .ref (G.2.1 + x0)), (1, .int x1), (2, .int x2), (3, .int x3), (4, .int x4)]) [0, 1, 2, 3, 4] rfl ?_
            refine ev_isub dd_X9_lay_117 ?_
            refine ev_callVV (As := [.int (x1 &&& (((1 : Int32) <<< (x4 &&& 31)) ^^^ (-1))), .int (x2 + 1), .int ((x3 + (M3 (zgr x0 1) (zix x4))) - w1)]) cl_RX9_70 (hR x0 hx0 (x1 &&& (((1 : Int32) <<< (x4 &&& 31)) ^^^ (-1))) (x2 + 1) ((x3 + (M3 (zgr x0 1) (zix x4))) - w1) M3) dd_X9_lay_118 hx0 (by omega) (Nat.le_of_ble_eq_true rfl) (Nat.le_of_ble_eq_true rfl) rfl rfl (fun M4 => ?_)
            exact hk2 _
          · refine ev_if_ne 78 dd_X9_lay_71 (by decide) ?_ ?_
            · refine ev_aload_n dd_X9_lay_78 0 rfl ?_
              refine ev_aload_n dd_X9_lay_79 0 rfl ?_
              refine ev_getR gf_RX9_19 dd_X9_lay_80 hx0 (by decide) ?_
              refine ev_iload_n dd_X9_lay_83 2 rfl ?_
              refine ev_iconst (v := 1) dd_X9_lay_84 (by decide) ?_
              refine ev_isub dd_X9_lay_85 ?_
              refine ev_iald dd_X9_lay_86 ((zg_9_2 hx0).1) ((zg_9_2 hx0).2) ?_
              refine ev_iload dd_X9_lay_87 4 rfl ?_
              refine ev_callVI (As := [.int (M1 (zgr x0 2) (zix (x2 - 1))), .int x4]) cl_RX9_64 (ct_X9_overlap l hl G x0 hx0 (M1 (zgr x0 2) (zix (x2 - 1))) x4 M1) dd_X9_lay_89 hx0 (by omega) (Nat.le_of_ble_eq_true rfl) (Nat.le_of_ble_eq_true rfl) rfl rfl (fun r1 M2 => ?_)
              exact hk3 _ _
            · refine ev_iconst (v := 0) dd_X9_lay_74 (by decide) ?_
              refine ev_goto 92 dd_X9_lay_75 (by decide) ?_
              exact hk3 _ _
set_option maxHeartbeats 1000000 in
set_option maxRecDepth 20000 in
theorem ct_X9_lay (l : Launch) (hl : l.stackTraces = false) (G : zG) (D : Nat) (R : Nat → Int32 → Int32 → Int32 → zM → zO) (hR : ∀ (t : Nat) (ht : zsh t = 9) (a1 : Int32) (a2 : Int32) (a3 : Int32) (M : zM), zMt l G Y_X9_lay D [.ref (G.2.1 + t), .int a1, .int a2, .int a3] M (R t a1 a2 a3 M)) (t : Nat) (ht : zsh t = 9) (a1 : Int32) (a2 : Int32) (a3 : Int32) (M : zM) : zMt l G Y_X9_lay (D + 9) [.ref (G.2.1 + t), .int a1, .int a2, .int a3] M (F_X9_lay R t a1 a2 a3 M) := by
  refine zMt_of (by decide +kernel) (Nat.le_of_ble_eq_true rfl) ?_
  show zEv l G Y_X9_lay (D + 9) 0 0 [(0, .ref (G.2.1 + t)), (1, .int a1), (2, .int a2), (3, .int a3)] [] M (zjo (fun  (M7 : zM) => zjo (fun  (M11 : zM) => zV M11) (fun (k4 : zM → zO) => zit ((M7 t 5) ≤ a3) (k4 M7) (zst (zup M7 t 5 a3) (fun M8 => zst (zup M8 t 4 a2) (fun M9 => zck (zcpk 0 0 5 5 5) (zst (zupA M9 (zgr t 3) (va_cpy (M9 (zgr t 2)) (M9 (zgr t 3)) (zix 0) (zix 0) (zix 5))) (fun M10 => k4 M10))))))) (fun (k1 : zM → zO) => zit (a1 = 0) (k1 M) (zit (a2 < 5) (F_X9_lay_L45 R t a1 a2 a3 (fun  (M6 : zM) => zV M6) zN 0 M) (k1 M))))
  refine ev_iload_n dd_X9_lay_0 1 rfl ?_
  refine ev_jo (fun (k1 : zM → zO) => ∀  (M7 : zM), zEv l G Y_X9_lay (D + 9) 0 9 [(0, .ref (G.2.1 + t)), (2, .int a2), (3, .int a3)] [] M7 (k1 M7)) ?_ (fun k1 hk1 => ?_)
  · intro M7
    refine ev_iload_n dd_X9_lay_9 2 rfl ?_
    refine ev_aload_n dd_X9_lay_10 0 rfl ?_
    refine ev_getI gf_RX9_29 dd_X9_lay_11 ht (by decide) ?_
    refine ev_jo (fun (k4 : zM → zO) => ∀  (M11 : zM), zEv l G Y_X9_lay (D + 9) 0 41 [] [] M11 (k4 M11)) ?_ (fun k4 hk4 => ?_)
    · intro M11
      exact ev_vret dd_X9_lay_41 rfl (Nat.le_of_ble_eq_true rfl) rfl
    · refine ev_icmp_ge 41 dd_X9_lay_14 (by decide) ?_ ?_
      · refine ev_lv (lv' := []) [] rfl ?_
        exact hk4 _
      · refine ev_aload_n dd_X9_lay_17 0 rfl ?_
        refine ev_iload_n dd_X9_lay_18 2 rfl ?_
        refine ev_lv (lv' := [(0, .ref (G.2.1 + t)), (2, .int a2)]) [0, 1] rfl ?_
        refine ev_putI gw_RX9_29 dd_X9_lay_19 ht (by decide) ?_
        refine ev_st (fun M8 => ?_)
        refine ev_aload_n dd_X9_lay_22 0 rfl ?_
        refine ev_iload_n dd_X9_lay_23 1 rfl ?_
        refine ev_lv (lv' := [(0, .ref (G.2.1 + t))]) [0] rfl ?_
        refine ev_putI gw_RX9_25 dd_X9_lay_24 ht (by decide) ?_
        refine ev_st (fun M9 => ?_)
        refine ev_aload_n dd_X9_lay_27 0 rfl ?_
        refine ev_getR gf_RX9_19 dd_X9_lay_28 ht (by decide) ?_
        refine ev_iconst (v := 0) dd_X9_lay_31 (by decide) ?_
        refine ev_aload_n dd_X9_lay_32 0 rfl ?_
        refine ev_lv (lv' := []) [] rfl ?_
        refine ev_getR gf_RX9_22 dd_X9_lay_33 ht (by decide) ?_
        refine ev_iconst (v := 0) dd_X9_lay_36 (by decide) ?_
        refine ev_iconst (v := 5) dd_X9_lay_37 (by decide) ?_
        refine ev_copyi cw_RX9_32 dd_X9_lay_38 ((zg_9_2 ht).1) ((zg_9_2 ht).2) ((zg_9_3 ht).1) ((zg_9_3 ht).2) (Nat.le_of_ble_eq_true rfl) ?_
        refine ev_st (fun M10 => ?_)
        exact hk4 _
  · refine ev_if_eq 9 dd_X9_lay_1 (by decide) ?_ ?_
    · refine ev_lv (lv' := [(0, .ref (G.2.1 + t)), (2, .int a2), (3, .int a3)]) [0, 2, 3] rfl ?_
      exact hk1 _
    · refine ev_iload_n dd_X9_lay_4 2 rfl ?_
      refine ev_iconst (v := 5) dd_X9_lay_5 (by decide) ?_
      refine ev_icmp_lt 42 dd_X9_lay_6 (by decide) ?_ ?_
      · refine ev_iconst (v := 0) dd_X9_lay_42 (by decide) ?_
        refine ev_istore (i := 4) (lv' := [(0, .ref (G.2.1 + t)), (1, .int a1), (2, .int a2), (3, .int a3), (4, .int 0)]) [1, 2, 3, 4, 0] dd_X9_lay_43 (by decide) rfl ?_
        refine ct_X9_lay_L45 l hl G D R hR t ht a1 a2 a3 _ (fun M6 => ?_) zN _ _
        exact ev_vret dd_X9_lay_127 rfl (Nat.le_of_ble_eq_true rfl) rfl
      · refine ev_lv (lv' := [(0, .ref (G.2.1 + t)), (2, .int a2), (3, .int a3)]) [0, 2, 3] rfl ?_
        exact hk1 _
set_option maxHeartbeats 1000000 in
set_option maxRecDepth 20000 in
theorem cr_X9_lay (l : Launch) (hl : l.stackTraces = false) (G : zG) : ∀ (n : Nat) (t : Nat) (ht : zsh t = 9) (a1 : Int32) (a2 : Int32) (a3 : Int32) (M : zM), zMt l G Y_X9_lay (n * 9) [.ref (G.2.1 + t), .int a1, .int a2, .int a3] M (Fr_X9_lay n t a1 a2 a3 M) := by
  intro n
  induction n with
  | zero => intro t ht a1 a2 a3 M r M' h; cases h
  | succ n ih =>
    intro t ht a1 a2 a3 M
    rw [Nat.succ_mul]
    exact ct_X9_lay l hl G (n * 9) (Fr_X9_lay n) ih t ht a1 a2 a3 M

/-! X9_withoutThoseInside -/
theorem dd_X9_withoutThoseInside_0 : decode Y_X9_withoutThoseInside.2.1 0 = .ok (.iload_n 1, 1) := by decide +kernel
theorem dd_X9_withoutThoseInside_1 : decode Y_X9_withoutThoseInside.2.1 1 = .ok (.istore_n 2, 1) := by decide +kernel
theorem dd_X9_withoutThoseInside_2 : decode Y_X9_withoutThoseInside.2.1 2 = .ok (.iconst 0, 1) := by decide +kernel
theorem dd_X9_withoutThoseInside_3 : decode Y_X9_withoutThoseInside.2.1 3 = .ok (.istore_n 3, 1) := by decide +kernel
theorem dd_X9_withoutThoseInside_4 : decode Y_X9_withoutThoseInside.2.1 4 = .ok (.iload_n 3, 1) := by decide +kernel
theorem dd_X9_withoutThoseInside_5 : decode Y_X9_withoutThoseInside.2.1 5 = .ok (.bipush 8, 2) := by decide +kernel
theorem dd_X9_withoutThoseInside_7 : decode Y_X9_withoutThoseInside.2.1 7 = .ok (.if_icmp .ge 80, 3) := by decide +kernel
theorem dd_X9_withoutThoseInside_10 : decode Y_X9_withoutThoseInside.2.1 10 = .ok (.iconst 0, 1) := by decide +kernel
theorem dd_X9_withoutThoseInside_11 : decode Y_X9_withoutThoseInside.2.1 11 = .ok (.istore 4, 2) := by decide +kernel
theorem dd_X9_withoutThoseInside_13 : decode Y_X9_withoutThoseInside.2.1 13 = .ok (.iload 4, 2) := by decide +kernel
theorem dd_X9_withoutThoseInside_15 : decode Y_X9_withoutThoseInside.2.1 15 = .ok (.bipush 8, 2) := by decide +kernel
theorem dd_X9_withoutThoseInside_17 : decode Y_X9_withoutThoseInside.2.1 17 = .ok (.if_icmp .ge 64, 3) := by decide +kernel
theorem dd_X9_withoutThoseInside_20 : decode Y_X9_withoutThoseInside.2.1 20 = .ok (.iload_n 1, 1) := by decide +kernel
theorem dd_X9_withoutThoseInside_21 : decode Y_X9_withoutThoseInside.2.1 21 = .ok (.iload_n 3, 1) := by decide +kernel
theorem dd_X9_withoutThoseInside_22 : decode Y_X9_withoutThoseInside.2.1 22 = .ok (.ishr, 1) := by decide +kernel
theorem dd_X9_withoutThoseInside_23 : decode Y_X9_withoutThoseInside.2.1 23 = .ok (.iconst 1, 1) := by decide +kernel
theorem dd_X9_withoutThoseInside_24 : decode Y_X9_withoutThoseInside.2.1 24 = .ok (.iand, 1) := by decide +kernel
theorem dd_X9_withoutThoseInside_25 : decode Y_X9_withoutThoseInside.2.1 25 = .ok (.iconst 1, 1) := by decide +kernel
theorem dd_X9_withoutThoseInside_26 : decode Y_X9_withoutThoseInside.2.1 26 = .ok (.if_icmp .ne 17, 3) := by decide +kernel
theorem dd_X9_withoutThoseInside_29 : decode Y_X9_withoutThoseInside.2.1 29 = .ok (.iload_n 1, 1) := by decide +kernel
theorem dd_X9_withoutThoseInside_30 : decode Y_X9_withoutThoseInside.2.1 30 = .ok (.iload 4, 2) := by decide +kernel
theorem dd_X9_withoutThoseInside_32 : decode Y_X9_withoutThoseInside.2.1 32 = .ok (.ishr, 1) := by decide +kernel
theorem dd_X9_withoutThoseInside_33 : decode Y_X9_withoutThoseInside.2.1 33 = .ok (.iconst 1, 1) := by decide +kernel
theorem dd_X9_withoutThoseInside_34 : decode Y_X9_withoutThoseInside.2.1 34 = .ok (.iand, 1) := by decide +kernel
theorem dd_X9_withoutThoseInside_35 : decode Y_X9_withoutThoseInside.2.1 35 = .ok (.iconst 1, 1) := by decide +kernel
theorem dd_X9_withoutThoseInside_36 : decode Y_X9_withoutThoseInside.2.1 36 = .ok (.if_icmp .ne 7, 3) := by decide +kernel
theorem dd_X9_withoutThoseInside_39 : decode Y_X9_withoutThoseInside.2.1 39 = .ok (.iconst 1, 1) := by decide +kernel
theorem dd_X9_withoutThoseInside_40 : decode Y_X9_withoutThoseInside.2.1 40 = .ok (.goto 4, 3) := by decide +kernel
theorem dd_X9_withoutThoseInside_43 : decode Y_X9_withoutThoseInside.2.1 43 = .ok (.iconst 0, 1) := by decide +kernel
theorem dd_X9_withoutThoseInside_44 : decode Y_X9_withoutThoseInside.2.1 44 = .ok (.istore 5, 2) := by decide +kernel
theorem dd_X9_withoutThoseInside_46 : decode Y_X9_withoutThoseInside.2.1 46 = .ok (.iload 5, 2) := by decide +kernel
theorem dd_X9_withoutThoseInside_48 : decode Y_X9_withoutThoseInside.2.1 48 = .ok (.ifCond .eq 27, 3) := by decide +kernel
theorem dd_X9_withoutThoseInside_51 : decode Y_X9_withoutThoseInside.2.1 51 = .ok (.iload_n 3, 1) := by decide +kernel
theorem dd_X9_withoutThoseInside_52 : decode Y_X9_withoutThoseInside.2.1 52 = .ok (.iload 4, 2) := by decide +kernel
theorem dd_X9_withoutThoseInside_54 : decode Y_X9_withoutThoseInside.2.1 54 = .ok (.if_icmp .eq 21, 3) := by decide +kernel
theorem dd_X9_withoutThoseInside_57 : decode Y_X9_withoutThoseInside.2.1 57 = .ok (.aload_n 0, 1) := by decide +kernel
theorem dd_X9_withoutThoseInside_58 : decode Y_X9_withoutThoseInside.2.1 58 = .ok (.iload_n 3, 1) := by decide +kernel
theorem dd_X9_withoutThoseInside_59 : decode Y_X9_withoutThoseInside.2.1 59 = .ok (.iload 4, 2) := by decide +kernel
theorem dd_X9_withoutThoseInside_61 : decode Y_X9_withoutThoseInside.2.1 61 = .ok (.invokevirtual 74, 3) := by decide +kernel
theorem dd_X9_withoutThoseInside_64 : decode Y_X9_withoutThoseInside.2.1 64 = .ok (.ifCond .eq 11, 3) := by decide +kernel
theorem dd_X9_withoutThoseInside_67 : decode Y_X9_withoutThoseInside.2.1 67 = .ok (.iload_n 2, 1) := by decide +kernel
theorem dd_X9_withoutThoseInside_68 : decode Y_X9_withoutThoseInside.2.1 68 = .ok (.iconst 1, 1) := by decide +kernel
theorem dd_X9_withoutThoseInside_69 : decode Y_X9_withoutThoseInside.2.1 69 = .ok (.iload_n 3, 1) := by decide +kernel
theorem dd_X9_withoutThoseInside_70 : decode Y_X9_withoutThoseInside.2.1 70 = .ok (.ishl, 1) := by decide +kernel
theorem dd_X9_withoutThoseInside_71 : decode Y_X9_withoutThoseInside.2.1 71 = .ok (.iconst (-1), 1) := by decide +kernel
theorem dd_X9_withoutThoseInside_72 : decode Y_X9_withoutThoseInside.2.1 72 = .ok (.ixor, 1) := by decide +kernel
theorem dd_X9_withoutThoseInside_73 : decode Y_X9_withoutThoseInside.2.1 73 = .ok (.iand, 1) := by decide +kernel
theorem dd_X9_withoutThoseInside_74 : decode Y_X9_withoutThoseInside.2.1 74 = .ok (.istore_n 2, 1) := by decide +kernel
theorem dd_X9_withoutThoseInside_75 : decode Y_X9_withoutThoseInside.2.1 75 = .ok (.iinc 4 1, 3) := by decide +kernel
theorem dd_X9_withoutThoseInside_78 : decode Y_X9_withoutThoseInside.2.1 78 = .ok (.goto (-65), 3) := by decide +kernel
theorem dd_X9_withoutThoseInside_81 : decode Y_X9_withoutThoseInside.2.1 81 = .ok (.iinc 3 1, 3) := by decide +kernel
theorem dd_X9_withoutThoseInside_84 : decode Y_X9_withoutThoseInside.2.1 84 = .ok (.goto (-80), 3) := by decide +kernel
theorem dd_X9_withoutThoseInside_87 : decode Y_X9_withoutThoseInside.2.1 87 = .ok (.iload_n 2, 1) := by decide +kernel
theorem dd_X9_withoutThoseInside_88 : decode Y_X9_withoutThoseInside.2.1 88 = .ok (.ireturn, 1) := by decide +kernel
def F_X9_withoutThoseInside_L13 (x0 : Nat) (x1 : Int32) (x3 : Int32) (K81 : Int32 → zM → zO) : Nat → Int32 → Int32 → zM → zO
  | 0, _, _, _ => none
  | n + 1, x2, x4, M => zit (8 ≤ x4) (K81 x2 M) (zjo (fun (w1 : Int32) (M2 : zM) => zjo (fun (w2 : Int32) (M4 : zM) => F_X9_withoutThoseInside_L13 x0 x1 x3 K81 n w2 (x4 + 1) M4) (fun (k3 : Int32 → zM → zO) => zit (w1 = 0) (k3 x2 M2) (zit (x3 = x4) (k3 x2 M2) (zbI (F_X9_isIn x0 x3 x4 M2) (fun r1 M3 => zit (r1 = 0) (k3 x2 M3) (zlt (x2 &&& (((1 : Int32) <<< (x3 &&& 31)) ^^^ (-1))) (fun v1 => k3 v1 M3))))))) (fun (k1 : Int32 → zM → zO) => zjo (fun  (M1 : zM) => k1 0 M1) (fun (k2 : zM → zO) => zit (((x1 >>> (x3 &&& 31)) &&& 1) = 1) (zit (((x1 >>> (x4 &&& 31)) &&& 1) = 1) (k1 1 M) (k2 M)) (k2 M))))
def F_X9_withoutThoseInside_L4 (x0 : Nat) (x1 : Int32) (K87 : Int32 → zM → zO) : Nat → Int32 → Int32 → zM → zO
  | 0, _, _, _ => none
  | n + 1, x2, x3, M => zit (8 ≤ x3) (K87 x2 M) (F_X9_withoutThoseInside_L13 x0 x1 x3 (fun (y1 : Int32) (M5 : zM) => F_X9_withoutThoseInside_L4 x0 x1 K87 n y1 (x3 + 1) M5) zN x2 0 M)
def F_X9_withoutThoseInside (t : Nat) (a1 : Int32) (M : zM) : zO := F_X9_withoutThoseInside_L4 t a1 (fun (y2 : Int32) (M6 : zM) => zI y2 M6) zN a1 0 M
set_option maxHeartbeats 1000000 in
set_option maxRecDepth 20000 in
theorem ct_X9_withoutThoseInside_L13 (l : Launch) (hl : l.stackTraces = false) (G : zG) (x0 : Nat) (hx0 : zsh x0 = 9) (x1 : Int32) (x3 : Int32) (K81 : Int32 → zM → zO) (hK81 : ∀ (x2 : Int32) (M : zM), zEv l G Y_X9_withoutThoseInside 4 0 81 [(0, .ref (G.2.1 + x0)), (1, .int x1), (2, .int x2), (3, .int x3)] [] M (K81 x2 M)) : ∀ (n : Nat) (x2 : Int32) (x4 : Int32) (M : zM), zEv l G Y_X9_withoutThoseInside 4 0 13 [(0, .ref (G.2.1 + x0)), (1, .int x1), (2, .int x2), (3, .int x3), (4, .int x4)] [] M (F_X9_withoutThoseInside_L13 x0 x1 x3 K81 n x2 x4 M) := by
  intro n
  induction n with
  | zero => intro x2 x4 M; exact ev_none
  | succ n ih =>
    intro x2 x4 M
    show zEv l G Y_X9_withoutThoseInside 4 0 13 [(0, .ref (G.2.1 + x0)), (1, .int x1), (2, .int x2), (3, .int x3), (4, .int x4)] [] M (zit (8 ≤ x4) (K81 x2 M) (zjo (fun (w1 : Int32) (M2 : zM) => zjo (fun (w2 : Int32) (M4 : zM) => F_X9_withoutThoseInside_L13 x0 x1 x3 K81 n w2 (x4 + 1) M4) (fun (k3 : Int32 → zM → zO) => zit (w1 = 0) (k3 x2 M2) (zit (x3 = x4) (k3 x2 M2) (zbI (F_X9_isIn x0 x3 x4 M2) (fun r1 M3 => zit (r1 = 0) (k3 x2 M3) (zlt (x2 &&& (((1 : Int32) <<< (x3 &&& 31)) ^^^ (-1))) (fun v1 => k3 v1 M3))))))) (fun (k1 : Int32 → zM → zO) => zjo (fun  (M1 : zM) => k1 0 M1) (fun (k2 : zM → zO) => zit (((x1 >>> (x3 &&& 31)) &&& 1) = 1) (zit (((x1 >>> (x4 &&& 31)) &&& 1) = 1) (k1 1 M) (k2 M)) (k2 M)))))
    refine ev_iload dd_X9_withoutThoseInside_13 4 rfl ?_
    refine ev_bipush (v := 8) dd_X9_withoutThoseInside_15 (by decide) ?_
    refine ev_icmp_ge 81 dd_X9_withoutThoseInside_17 (by decide) ?_ ?_
    · refine ev_lv (lv' := [(0, .ref (G.2.1 + x0)), (1, .int x1), (2, .int x2), (3, .int x3)]) [0, 1, 2, 3] rfl ?_
      exact hK81 _ _
    · refine ev_iload_n dd_X9_withoutThoseInside_20 1 rfl ?_
      refine ev_iload_n dd_X9_withoutThoseInside_21 3 rfl ?_
      refine ev_ishr dd_X9_withoutThoseInside_22 ?_
      refine ev_iconst (v := 1) dd_X9_withoutThoseInside_23 (by decide) ?_
      refine ev_iand dd_X9_withoutThoseInside_24 ?_
      refine ev_iconst (v := 1) dd_X9_withoutThoseInside_25 (by decide) ?_
      refine ev_jo (fun (k1 : Int32 → zM → zO) => ∀ (w1 : Int32) (M2 : zM), zEv l G Y_X9_withoutThoseInside 4 0 44 [(0, .ref (G.2.1 + x0)), (1, .int x1), (2, .int x2), (3, .int x3), (4, .int x4)] [.int w1] M2 (k1 w1 M2)) ?_ (fun k1 hk1 => ?_)
      · intro w1 M2
        refine ev_istore (i := 5) (lv' := [(0, .ref (G.2.1 + x0)), (1, .int x1), (2, .int x2), (3, .int x3), (4, .int x4), (5, .int w1)]) [1, 2, 3, 4, 5, 0] dd_X9_withoutThoseInside_44 (by decide) rfl ?_
        refine ev_iload dd_X9_withoutThoseInside_46 5 rfl ?_
        refine ev_lv (lv' := [(0, .ref (G.2.1 + x0)), (1, .int x1), (2, .int x2), (3, .int x3), (4, .int x4)]) [0, 1, 2, 3, 4] rfl ?_
        refine ev_jo (fun (k3 : Int32 → zM → zO) => ∀ (w2 : Int32) (M4 : zM), zEv l G Y_X9_withoutThoseInside 4 0 75 [(0, .ref (G.2.1 + x0)), (1, .int x1), (2, .int w2), (3, .int x3), (4, .int x4)] [] M4 (k3 w2 M4)) ?_ (fun k3 hk3 => ?_)
        · intro w2 M4
          refine ev_iinc (j := 4) (v := 1) (lv' := [(0, .ref (G.2.1 + x0)), (1, .int x1), (2, .int w2), (3, .int x3), (4, .int (x4 + 1))]) [1, 2, 3, 4, 0] dd_X9_withoutThoseInside_75 rfl (by decide) (by decide) rfl ?_
          refine ev_goto 13 dd_X9_withoutThoseInside_78 (by decide) ?_
          exact ih _ _ _
        · refine ev_if_eq 75 dd_X9_withoutThoseInside_48 (by decide) ?_ ?_
          · exact hk3 _ _
          · refine ev_iload_n dd_X9_withoutThoseInside_51 3 rfl ?_
            refine ev_iload dd_X9_withoutThoseInside_52 4 rfl ?_
            refine ev_icmp_eq 75 dd_X9_withoutThoseInside_54 (by decide) ?_ ?_
            · exact hk3 _ _
            · refine ev_aload_n dd_X9_withoutThoseInside_57 0 rfl ?_
              refine ev_iload_n dd_X9_withoutThoseInside_58 3 rfl ?_
              refine ev_iload dd_X9_withoutThoseInside_59 4 rfl ?_
              refine ev_callVI (As := [.int x3, .int x4]) cl_RX9_74 (ct_X9_isIn l hl G x0 hx0 x3 x4 M2) dd_X9_withoutThoseInside_61 hx0 (by decide) (Nat.le_of_ble_eq_true rfl) (Nat.le_of_ble_eq_true rfl) rfl rfl (fun r1 M3 => ?_)
              refine ev_if_eq 75 dd_X9_withoutThoseInside_64 (by decide) ?_ ?_
              · exact hk3 _ _
              · refine ev_iload_n dd_X9_withoutThoseInside_67 2 rfl ?_
                refine ev_lv (lv' := [(0, .ref (G.2.1 + x0)), (1, .int x1), (3, .int x3), (4, .int x4)]) [0, 1, 3, 4] rfl ?_
                refine ev_iconst (v := 1) dd_X9_withoutThoseInside_68 (by decide) ?_
                refine ev_iload_n dd_X9_withoutThoseInside_69 2 rfl ?_
                refine ev_ishl dd_X9_withoutThoseInside_70 ?_
                refine ev_iconst (v := (-1)) dd_X9_withoutThoseInside_71 (by decide) ?_
                refine ev_ixor dd_X9_withoutThoseInside_72 ?_
                refine ev_iand dd_X9_withoutThoseInside_73 ?_
                refine ev_topi (fun v1 => ?_)
                refine ev_istore_n (i := 2) (lv' := [(0, .ref (G.2.1 + x0)), (1, .int x1), (2, .int v1), (3, .int x3), (4, .int x4)]) [1, 2, 0, 3, 4] dd_X9_withoutThoseInside_74 rfl (by decide) rfl ?_
                exact hk3 _ _
      · refine ev_jo (fun (k2 : zM → zO) => ∀  (M1 : zM), zEv l G Y_X9_withoutThoseInside 4 0 43 [(0, .ref (G.2.1 + x0)), (1, .int x1), (2, .int x2), (3, .int x3), (4, .int x4)] [] M1 (k2 M1)) ?_ (fun k2 hk2 => ?_)
        · intro M1
          refine ev_iconst (v := 0) dd_X9_withoutThoseInside_43 (by decide) ?_
          exact hk1 _ _
        · refine ev_icmp_ne 43 dd_X9_withoutThoseInside_26 (by decide) ?_ ?_
          · exact hk2 _
          · refine ev_iload_n dd_X9_withoutThoseInside_29 1 rfl ?_
            refine ev_iload dd_X9_withoutThoseInside_30 4 rfl ?_
            refine ev_ishr dd_X9_withoutThoseInside_32 ?_
            refine ev_iconst (v := 1) dd_X9_withoutThoseInside_33 (by decide) ?_
            refine ev_iand dd_X9_withoutThoseInside_34 ?_
            refine ev_iconst (v := 1) dd_X9_withoutThoseInside_35 (by decide) ?_
            refine ev_icmp_ne 43 dd_X9_withoutThoseInside_36 (by decide) ?_ ?_
            · exact hk2 _
            · refine ev_iconst (v := 1) dd_X9_withoutThoseInside_39 (by decide) ?_
              refine ev_goto 44 dd_X9_withoutThoseInside_40 (by decide) ?_
              exact hk1 _ _
set_option maxHeartbeats 1000000 in
set_option maxRecDepth 20000 in
theorem ct_X9_withoutThoseInside_L4 (l : Launch) (hl : l.stackTraces = false) (G : zG) (x0 : Nat) (hx0 : zsh x0 = 9) (x1 : Int32) (K87 : Int32 → zM → zO) (hK87 : ∀ (x2 : Int32) (M : zM), zEv l G Y_X9_withoutThoseInside 4 0 87 [(2, .int x2)] [] M (K87 x2 M)) : ∀ (n : Nat) (x2 : Int32) (x3 : Int32) (M : zM), zEv l G Y_X9_withoutThoseInside 4 0 4 [(0, .ref (G.2.1 + x0)), (1, .int x1), (2, .int x2), (3, .int x3)] [] M (F_X9_withoutThoseInside_L4 x0 x1 K87 n x2 x3 M) := by
  intro n
  induction n with
  | zero => intro x2 x3 M; exact ev_none
  | succ n ih =>
    intro x2 x3 M
    show zEv l G Y_X9_withoutThoseInside 4 0 4 [(0, .ref (G.2.1 + x0)), (1, .int x1), (2, .int x2), (3, .int x3)] [] M (zit (8 ≤ x3) (K87 x2 M) (F_X9_withoutThoseInside_L13 x0 x1 x3 (fun (y1 : Int32) (M5 : zM) => F_X9_withoutThoseInside_L4 x0 x1 K87 n y1 (x3 + 1) M5) zN x2 0 M))
    refine ev_iload_n dd_X9_withoutThoseInside_4 3 rfl ?_
    refine ev_bipush (v := 8) dd_X9_withoutThoseInside_5 (by decide) ?_
    refine ev_icmp_ge 87 dd_X9_withoutThoseInside_7 (by decide) ?_ ?_
    · refine ev_lv (lv' := [(2, .int x2)]) [2] rfl ?_
      exact hK87 _ _
    · refine ev_iconst (v := 0) dd_X9_withoutThoseInside_10 (by decide) ?_
      refine ev_istore (i := 4) (lv' := [(0, .ref (G.2.1 + x0)), (1, .int x1), (2, .int x2), (3, .int x3), (4, .int 0)]) [1, 2, 3, 4, 0] dd_X9_withoutThoseInside_11 (by decide) rfl ?_
      refine ct_X9_withoutThoseInside_L13 l hl G x0 hx0 x1 x3 _ (fun y1 M5 => ?_) zN _ _ _
      refine ev_iinc (j := 3) (v := 1) (lv' := [(0, .ref (G.2.1 + x0)), (1, .int x1), (2, .int y1), (3, .int (x3 + 1))]) [1, 2, 3, 0] dd_X9_withoutThoseInside_81 rfl (by decide) (by decide) rfl ?_
      refine ev_goto 4 dd_X9_withoutThoseInside_84 (by decide) ?_
      exact ih _ _ _
set_option maxHeartbeats 1000000 in
set_option maxRecDepth 20000 in
theorem ct_X9_withoutThoseInside (l : Launch) (hl : l.stackTraces = false) (G : zG) (t : Nat) (ht : zsh t = 9) (a1 : Int32) (M : zM) : zMt l G Y_X9_withoutThoseInside 4 [.ref (G.2.1 + t), .int a1] M (F_X9_withoutThoseInside t a1 M) := by
  refine zMt_of (by decide +kernel) (Nat.le_of_ble_eq_true rfl) ?_
  show zEv l G Y_X9_withoutThoseInside 4 0 0 [(0, .ref (G.2.1 + t)), (1, .int a1)] [] M (F_X9_withoutThoseInside_L4 t a1 (fun (y2 : Int32) (M6 : zM) => zI y2 M6) zN a1 0 M)
  refine ev_iload_n dd_X9_withoutThoseInside_0 1 rfl ?_
  refine ev_istore_n (i := 2) (lv' := [(0, .ref (G.2.1 + t)), (1, .int a1), (2, .int a1)]) [1, 2, 0] dd_X9_withoutThoseInside_1 rfl (by decide) rfl ?_
  refine ev_iconst (v := 0) dd_X9_withoutThoseInside_2 (by decide) ?_
  refine ev_istore_n (i := 3) (lv' := [(0, .ref (G.2.1 + t)), (1, .int a1), (2, .int a1), (3, .int 0)]) [1, 2, 3, 0] dd_X9_withoutThoseInside_3 rfl (by decide) rfl ?_
  refine ct_X9_withoutThoseInside_L4 l hl G t ht a1 _ (fun y2 M6 => ?_) zN _ _ _
  refine ev_iload_n dd_X9_withoutThoseInside_87 0 rfl ?_
  refine ev_lv (lv' := []) [] rfl ?_
  exact ev_iret dd_X9_withoutThoseInside_88 rfl (Nat.le_of_ble_eq_true rfl) rfl
/-! X9_findShortest -/
theorem dd_X9_findShortest_0 : decode Y_X9_findShortest.2.1 0 = .ok (.aload_n 0, 1) := by decide +kernel
theorem dd_X9_findShortest_1 : decode Y_X9_findShortest.2.1 1 = .ok (.bipush 46, 2) := by decide +kernel
theorem dd_X9_findShortest_3 : decode Y_X9_findShortest.2.1 3 = .ok (.putfield 29, 3) := by decide +kernel
theorem dd_X9_findShortest_6 : decode Y_X9_findShortest.2.1 6 = .ok (.aload_n 0, 1) := by decide +kernel
theorem dd_X9_findShortest_7 : decode Y_X9_findShortest.2.1 7 = .ok (.iconst 0, 1) := by decide +kernel
theorem dd_X9_findShortest_8 : decode Y_X9_findShortest.2.1 8 = .ok (.putfield 25, 3) := by decide +kernel
theorem dd_X9_findShortest_11 : decode Y_X9_findShortest.2.1 11 = .ok (.aload_n 0, 1) := by decide +kernel
theorem dd_X9_findShortest_12 : decode Y_X9_findShortest.2.1 12 = .ok (.aload_n 0, 1) := by decide +kernel
theorem dd_X9_findShortest_13 : decode Y_X9_findShortest.2.1 13 = .ok (.iload_n 1, 1) := by decide +kernel
theorem dd_X9_findShortest_14 : decode Y_X9_findShortest.2.1 14 = .ok (.invokevirtual 67, 3) := by decide +kernel
theorem dd_X9_findShortest_17 : decode Y_X9_findShortest.2.1 17 = .ok (.iconst 0, 1) := by decide +kernel
theorem dd_X9_findShortest_18 : decode Y_X9_findShortest.2.1 18 = .ok (.iconst 0, 1) := by decide +kernel
theorem dd_X9_findShortest_19 : decode Y_X9_findShortest.2.1 19 = .ok (.invokevirtual 70, 3) := by decide +kernel
theorem dd_X9_findShortest_22 : decode Y_X9_findShortest.2.1 22 = .ok (.return_, 1) := by decide +kernel
def F_X9_findShortest (t : Nat) (a1 : Int32) (M : zM) : zO := zst (zup M t 5 46) (fun M1 => zst (zup M1 t 4 0) (fun M2 => zbI (F_X9_withoutThoseInside t a1 M2) (fun r1 M3 => zbV (Fr_X9_lay 9 t r1 0 0 M3) (fun M4 => zV M4))))
set_option maxHeartbeats 1000000 in
set_option maxRecDepth 20000 in
theorem ct_X9_findShortest (l : Launch) (hl : l.stackTraces = false) (G : zG) (t : Nat) (ht : zsh t = 9) (a1 : Int32) (M : zM) : zMt l G Y_X9_findShortest 82 [.ref (G.2.1 + t), .int a1] M (F_X9_findShortest t a1 M) := by
  refine zMt_of (by decide +kernel) (Nat.le_of_ble_eq_true rfl) ?_
  show zEv l G Y_X9_findShortest 82 0 0 [(0, .ref (G.2.1 + t)), (1, .int a1)] [] M (zst (zup M t 5 46) (fun M1 => zst (zup M1 t 4 0) (fun M2 => zbI (F_X9_withoutThoseInside t a1 M2) (fun r1 M3 => zbV (Fr_X9_lay 9 t r1 0 0 M3) (fun M4 => zV M4)))))
  refine ev_aload_n dd_X9_findShortest_0 0 rfl ?_
  refine ev_bipush (v := 46) dd_X9_findShortest_1 (by decide) ?_
  refine ev_putI gw_RX9_29 dd_X9_findShortest_3 ht (by decide) ?_
  refine ev_st (fun M1 => ?_)
  refine ev_aload_n dd_X9_findShortest_6 0 rfl ?_
  refine ev_iconst (v := 0) dd_X9_findShortest_7 (by decide) ?_
  refine ev_putI gw_RX9_25 dd_X9_findShortest_8 ht (by decide) ?_
  refine ev_st (fun M2 => ?_)
  refine ev_aload_n dd_X9_findShortest_11 0 rfl ?_
  refine ev_aload_n dd_X9_findShortest_12 0 rfl ?_
  refine ev_lv (lv' := [(1, .int a1)]) [1] rfl ?_
  refine ev_iload_n dd_X9_findShortest_13 0 rfl ?_
  refine ev_lv (lv' := []) [] rfl ?_
  refine ev_callVI (As := [.int a1]) cl_RX9_67 (ct_X9_withoutThoseInside l hl G t ht a1 M2) dd_X9_findShortest_14 ht (by decide) (Nat.le_of_ble_eq_true rfl) (Nat.le_of_ble_eq_true rfl) rfl rfl (fun r1 M3 => ?_)
  refine ev_iconst (v := 0) dd_X9_findShortest_17 (by decide) ?_
  refine ev_iconst (v := 0) dd_X9_findShortest_18 (by decide) ?_
  refine ev_callVV (As := [.int r1, .int 0, .int 0]) cl_RX9_70 (cr_X9_lay l hl G 9 t ht r1 0 0 M3) dd_X9_findShortest_19 ht (by decide) (Nat.le_of_ble_eq_true rfl) (Nat.le_of_ble_eq_true rfl) rfl rfl (fun M4 => ?_)
  exact ev_vret dd_X9_findShortest_22 rfl (Nat.le_of_ble_eq_true rfl) rfl
/-! X9_shortestOrder -/
theorem dd_X9_shortestOrder_0 : decode Y_X9_shortestOrder.2.1 0 = .ok (.iload_n 1, 1) := by decide +kernel
theorem dd_X9_shortestOrder_1 : decode Y_X9_shortestOrder.2.1 1 = .ok (.ifCond .lt 20, 3) := by decide +kernel
theorem dd_X9_shortestOrder_4 : decode Y_X9_shortestOrder.2.1 4 = .ok (.iload_n 1, 1) := by decide +kernel
theorem dd_X9_shortestOrder_5 : decode Y_X9_shortestOrder.2.1 5 = .ok (.aload_n 0, 1) := by decide +kernel
theorem dd_X9_shortestOrder_6 : decode Y_X9_shortestOrder.2.1 6 = .ok (.getfield 25, 3) := by decide +kernel
theorem dd_X9_shortestOrder_9 : decode Y_X9_shortestOrder.2.1 9 = .ok (.if_icmp .ge 12, 3) := by decide +kernel
theorem dd_X9_shortestOrder_12 : decode Y_X9_shortestOrder.2.1 12 = .ok (.aload_n 0, 1) := by decide +kernel
theorem dd_X9_shortestOrder_13 : decode Y_X9_shortestOrder.2.1 13 = .ok (.getfield 22, 3) := by decide +kernel
theorem dd_X9_shortestOrder_16 : decode Y_X9_shortestOrder.2.1 16 = .ok (.iload_n 1, 1) := by decide +kernel
theorem dd_X9_shortestOrder_17 : decode Y_X9_shortestOrder.2.1 17 = .ok (.iaload, 1) := by decide +kernel
theorem dd_X9_shortestOrder_18 : decode Y_X9_shortestOrder.2.1 18 = .ok (.goto 4, 3) := by decide +kernel
theorem dd_X9_shortestOrder_21 : decode Y_X9_shortestOrder.2.1 21 = .ok (.iconst (-1), 1) := by decide +kernel
theorem dd_X9_shortestOrder_22 : decode Y_X9_shortestOrder.2.1 22 = .ok (.ireturn, 1) := by decide +kernel
def F_X9_shortestOrder (t : Nat) (a1 : Int32) (M : zM) : zO := zjo (fun (w1 : Int32) (M2 : zM) => zI w1 M2) (fun (k1 : Int32 → zM → zO) => zjo (fun  (M1 : zM) => k1 (-1) M1) (fun (k2 : zM → zO) => zit (a1 < 0) (k2 M) (zit ((M t 4) ≤ a1) (k2 M) (zck (zin a1 5) (k1 (M (zgr t 3) (zix a1)) M)))))
set_option maxHeartbeats 1000000 in
set_option maxRecDepth 20000 in
theorem ct_X9_shortestOrder (l : Launch) (hl : l.stackTraces = false) (G : zG) (t : Nat) (ht : zsh t = 9) (a1 : Int32) (M : zM) : zMt l G Y_X9_shortestOrder 1 [.ref (G.2.1 + t), .int a1] M (F_X9_shortestOrder t a1 M) := by
  refine zMt_of (by decide +kernel) (Nat.le_of_ble_eq_true rfl) ?_
  show zEv l G Y_X9_shortestOrder 1 0 0 [(0, .ref (G.2.1 + t)), (1, .int a1)] [] M (zjo (fun (w1 : Int32) (M2 : zM) => zI w1 M2) (fun (k1 : Int32 → zM → zO) => zjo (fun  (M1 : zM) => k1 (-1) M1) (fun (k2 : zM → zO) => zit (a1 < 0) (k2 M) (zit ((M t 4) ≤ a1) (k2 M) (zck (zin a1 5) (k1 (M (zgr t 3) (zix a1)) M))))))
  refine ev_iload_n dd_X9_shortestOrder_0 1 rfl ?_
  refine ev_jo (fun (k1 : Int32 → zM → zO) => ∀ (w1 : Int32) (M2 : zM), zEv l G Y_X9_shortestOrder 1 0 22 [] [.int w1] M2 (k1 w1 M2)) ?_ (fun k1 hk1 => ?_)
  · intro w1 M2
    exact ev_iret dd_X9_shortestOrder_22 rfl (Nat.le_of_ble_eq_true rfl) rfl
  · refine ev_jo (fun (k2 : zM → zO) => ∀  (M1 : zM), zEv l G Y_X9_shortestOrder 1 0 21 [] [] M1 (k2 M1)) ?_ (fun k2 hk2 => ?_)
    · intro M1
      refine ev_iconst (v := (-1)) dd_X9_shortestOrder_21 (by decide) ?_
      exact hk1 _ _
    · refine ev_if_lt 21 dd_X9_shortestOrder_1 (by decide) ?_ ?_
      · refine ev_lv (lv' := []) [] rfl ?_
        exact hk2 _
      · refine ev_iload_n dd_X9_shortestOrder_4 1 rfl ?_
        refine ev_aload_n dd_X9_shortestOrder_5 0 rfl ?_
        refine ev_getI gf_RX9_25 dd_X9_shortestOrder_6 ht (by decide) ?_
        refine ev_icmp_ge 21 dd_X9_shortestOrder_9 (by decide) ?_ ?_
        · refine ev_lv (lv' := []) [] rfl ?_
          exact hk2 _
        · refine ev_aload_n dd_X9_shortestOrder_12 0 rfl ?_
          refine ev_lv (lv' := [(1, .int a1)]) [1] rfl ?_
          refine ev_getR gf_RX9_22 dd_X9_shortestOrder_13 ht (by decide) ?_
          refine ev_iload_n dd_X9_shortestOrder_16 0 rfl ?_
          refine ev_lv (lv' := []) [] rfl ?_
          refine ev_iald dd_X9_shortestOrder_17 ((zg_9_3 ht).1) ((zg_9_3 ht).2) ?_
          refine ev_goto 22 dd_X9_shortestOrder_18 (by decide) ?_
          exact hk1 _ _
/-! X11_shortest -/
theorem dd_X11_shortest_0 : decode Y_X11_shortest.2.1 0 = .ok (.iload_n 1, 1) := by decide +kernel
theorem dd_X11_shortest_1 : decode Y_X11_shortest.2.1 1 = .ok (.ifCond .lt 24, 3) := by decide +kernel
theorem dd_X11_shortest_4 : decode Y_X11_shortest.2.1 4 = .ok (.iload_n 1, 1) := by decide +kernel
theorem dd_X11_shortest_5 : decode Y_X11_shortest.2.1 5 = .ok (.iconst 1, 1) := by decide +kernel
theorem dd_X11_shortest_6 : decode Y_X11_shortest.2.1 6 = .ok (.aload_n 0, 1) := by decide +kernel
theorem dd_X11_shortest_7 : decode Y_X11_shortest.2.1 7 = .ok (.getfield 19, 3) := by decide +kernel
theorem dd_X11_shortest_10 : decode Y_X11_shortest.2.1 10 = .ok (.getfield 142, 3) := by decide +kernel
theorem dd_X11_shortest_13 : decode Y_X11_shortest.2.1 13 = .ok (.ishl, 1) := by decide +kernel
theorem dd_X11_shortest_14 : decode Y_X11_shortest.2.1 14 = .ok (.if_icmp .ge 11, 3) := by decide +kernel
theorem dd_X11_shortest_17 : decode Y_X11_shortest.2.1 17 = .ok (.iload_n 1, 1) := by decide +kernel
theorem dd_X11_shortest_18 : decode Y_X11_shortest.2.1 18 = .ok (.invokestatic 229, 3) := by decide +kernel
theorem dd_X11_shortest_21 : decode Y_X11_shortest.2.1 21 = .ok (.iconst 5, 1) := by decide +kernel
theorem dd_X11_shortest_22 : decode Y_X11_shortest.2.1 22 = .ok (.if_icmp .le 14, 3) := by decide +kernel
theorem dd_X11_shortest_25 : decode Y_X11_shortest.2.1 25 = .ok (.new 119, 3) := by decide +kernel
theorem dd_X11_shortest_28 : decode Y_X11_shortest.2.1 28 = .ok (.dup, 1) := by decide +kernel
theorem dd_X11_shortest_29 : decode Y_X11_shortest.2.1 29 = .ok (.ldc_w 309, 3) := by decide +kernel
theorem dd_X11_shortest_32 : decode Y_X11_shortest.2.1 32 = .ok (.invokespecial 123, 3) := by decide +kernel
theorem dd_X11_shortest_35 : decode Y_X11_shortest.2.1 35 = .ok (.athrow, 1) := by decide +kernel
theorem dd_X11_shortest_36 : decode Y_X11_shortest.2.1 36 = .ok (.iload_n 2, 1) := by decide +kernel
theorem dd_X11_shortest_37 : decode Y_X11_shortest.2.1 37 = .ok (.invokestatic 311, 3) := by decide +kernel
theorem dd_X11_shortest_40 : decode Y_X11_shortest.2.1 40 = .ok (.aload_n 0, 1) := by decide +kernel
theorem dd_X11_shortest_41 : decode Y_X11_shortest.2.1 41 = .ok (.getfield 19, 3) := by decide +kernel
theorem dd_X11_shortest_44 : decode Y_X11_shortest.2.1 44 = .ok (.getfield 172, 3) := by decide +kernel
theorem dd_X11_shortest_47 : decode Y_X11_shortest.2.1 47 = .ok (.iload_n 1, 1) := by decide +kernel
theorem dd_X11_shortest_48 : decode Y_X11_shortest.2.1 48 = .ok (.invokevirtual 314, 3) := by decide +kernel
theorem dd_X11_shortest_51 : decode Y_X11_shortest.2.1 51 = .ok (.iload_n 2, 1) := by decide +kernel
theorem dd_X11_shortest_52 : decode Y_X11_shortest.2.1 52 = .ok (.iconst (-1), 1) := by decide +kernel
theorem dd_X11_shortest_53 : decode Y_X11_shortest.2.1 53 = .ok (.if_icmp .ne 16, 3) := by decide +kernel
theorem dd_X11_shortest_56 : decode Y_X11_shortest.2.1 56 = .ok (.aload_n 0, 1) := by decide +kernel
theorem dd_X11_shortest_57 : decode Y_X11_shortest.2.1 57 = .ok (.getfield 19, 3) := by decide +kernel
theorem dd_X11_shortest_60 : decode Y_X11_shortest.2.1 60 = .ok (.getfield 172, 3) := by decide +kernel
theorem dd_X11_shortest_63 : decode Y_X11_shortest.2.1 63 = .ok (.getfield 317, 3) := by decide +kernel
theorem dd_X11_shortest_66 : decode Y_X11_shortest.2.1 66 = .ok (.goto 14, 3) := by decide +kernel
theorem dd_X11_shortest_69 : decode Y_X11_shortest.2.1 69 = .ok (.aload_n 0, 1) := by decide +kernel
theorem dd_X11_shortest_70 : decode Y_X11_shortest.2.1 70 = .ok (.getfield 19, 3) := by decide +kernel
theorem dd_X11_shortest_73 : decode Y_X11_shortest.2.1 73 = .ok (.getfield 172, 3) := by decide +kernel
theorem dd_X11_shortest_76 : decode Y_X11_shortest.2.1 76 = .ok (.iload_n 2, 1) := by decide +kernel
theorem dd_X11_shortest_77 : decode Y_X11_shortest.2.1 77 = .ok (.invokevirtual 320, 3) := by decide +kernel
theorem dd_X11_shortest_80 : decode Y_X11_shortest.2.1 80 = .ok (.ireturn, 1) := by decide +kernel
def F_X11_shortest (t : Nat) (a1 : Int32) (a2 : Int32) (M : zM) : zO := zjo (fun  (M6 : zM) => zE "java/lang/IllegalArgumentException" M6) (fun (k1 : zM → zO) => zit (a1 < 0) (k1 M) (zit (((1 : Int32) <<< ((M (zgr t 1) 0) &&& 31)) ≤ a1) (k1 M) (zbI (F_J6_bitCount_0f7a4 a1 M) (fun r1 M1 => zit (r1 ≤ 5) (zbV (F_X11_needNoneOrMore a2 M1) (fun M2 => zbV (F_X9_findShortest (zgr (zgr t 1) 4) a1 M2) (fun M3 => zjo (fun (w1 : Int32) (M5 : zM) => zI w1 M5) (fun (k2 : Int32 → zM → zO) => zit (a2 = (-1)) (k2 (M3 (zgr (zgr t 1) 4) 5) M3) (zbI (F_X9_shortestOrder (zgr (zgr t 1) 4) a2 M3) (fun r2 M4 => k2 r2 M4)))))) (k1 M1)))))
set_option maxHeartbeats 1000000 in
set_option maxRecDepth 20000 in
theorem ct_X11_shortest (l : Launch) (hl : l.stackTraces = false) (G : zG) (t : Nat) (ht : zsh t = 11) (a1 : Int32) (a2 : Int32) (M : zM) : zMt l G Y_X11_shortest 83 [.ref (G.2.1 + t), .int a1, .int a2] M (F_X11_shortest t a1 a2 M) := by
  refine zMt_of (by decide +kernel) (Nat.le_of_ble_eq_true rfl) ?_
  show zEv l G Y_X11_shortest 83 0 0 [(0, .ref (G.2.1 + t)), (1, .int a1), (2, .int a2)] [] M (zjo (fun  (M6 : zM) => zE "java/lang/IllegalArgumentException" M6) (fun (k1 : zM → zO) => zit (a1 < 0) (k1 M) (zit (((1 : Int32) <<< ((M (zgr t 1) 0) &&& 31)) ≤ a1) (k1 M) (zbI (F_J6_bitCount_0f7a4 a1 M) (fun r1 M1 => zit (r1 ≤ 5) (zbV (F_X11_needNoneOrMore a2 M1) (fun M2 => zbV (F_X9_findShortest (zgr (zgr t 1) 4) a1 M2) (fun M3 => zjo (fun (w1 : Int32) (M5 : zM) => zI w1 M5) (fun (k2 : Int32 → zM → zO) => zit (a2 = (-1)) (k2 (M3 (zgr (zgr t 1) 4) 5) M3) (zbI (F_X9_shortestOrder (zgr (zgr t 1) 4) a2 M3) (fun r2 M4 => k2 r2 M4)))))) (k1 M1))))))
  refine ev_iload_n dd_X11_shortest_0 1 rfl ?_
  refine ev_jo (fun (k1 : zM → zO) => ∀  (M6 : zM), zEv l G Y_X11_shortest 83 0 25 [] [] M6 (k1 M6)) ?_ (fun k1 hk1 => ?_)
  · intro M6
    exact ev_throwSW hl zTh_IAE sr_RX11_309 dd_X11_shortest_25 dd_X11_shortest_28 dd_X11_shortest_29 dd_X11_shortest_32 dd_X11_shortest_35 (Nat.le_of_ble_eq_true rfl) (Nat.le_of_ble_eq_true rfl)
  · refine ev_if_lt 25 dd_X11_shortest_1 (by decide) ?_ ?_
    · refine ev_lv (lv' := []) [] rfl ?_
      exact hk1 _
    · refine ev_iload_n dd_X11_shortest_4 1 rfl ?_
      refine ev_iconst (v := 1) dd_X11_shortest_5 (by decide) ?_
      refine ev_aload_n dd_X11_shortest_6 0 rfl ?_
      refine ev_getR gf_RX11_19 dd_X11_shortest_7 ht (by decide) ?_
      refine ev_getI gf_RX11_142 dd_X11_shortest_10 (zg_11_1 ht) (by decide) ?_
      refine ev_ishl dd_X11_shortest_13 ?_
      refine ev_icmp_ge 25 dd_X11_shortest_14 (by decide) ?_ ?_
      · refine ev_lv (lv' := []) [] rfl ?_
        exact hk1 _
      · refine ev_iload_n dd_X11_shortest_17 1 rfl ?_
        refine ev_callSI (As := [.int a1]) cl_RX11_229 (ct_J6_bitCount_0f7a4 l hl G a1 M) dd_X11_shortest_18 (by decide) (Nat.le_of_ble_eq_true rfl) (Nat.le_of_ble_eq_true rfl) rfl rfl (fun r1 M1 => ?_)
        refine ev_iconst (v := 5) dd_X11_shortest_21 (by decide) ?_
        refine ev_icmp_le 36 dd_X11_shortest_22 (by decide) ?_ ?_
        · refine ev_iload_n dd_X11_shortest_36 2 rfl ?_
          refine ev_callSV (As := [.int a2]) cl_RX11_311 (ct_X11_needNoneOrMore l hl G a2 M1) dd_X11_shortest_37 (by decide) (Nat.le_of_ble_eq_true rfl) (Nat.le_of_ble_eq_true rfl) rfl rfl (fun M2 => ?_)
          refine ev_aload_n dd_X11_shortest_40 0 rfl ?_
          refine ev_getR gf_RX11_19 dd_X11_shortest_41 ht (by decide) ?_
          refine ev_getR gf_RX11_172 dd_X11_shortest_44 (zg_11_1 ht) (by decide) ?_
          refine ev_iload_n dd_X11_shortest_47 1 rfl ?_
          refine ev_lv (lv' := [(0, .ref (G.2.1 + t)), (2, .int a2)]) [0, 2] rfl ?_
          refine ev_callVV (As := [.int a1]) cl_RX11_314 (ct_X9_findShortest l hl G (zgr (zgr t 1) 4) (zg_6_4 (zg_11_1 ht)) a1 M2) dd_X11_shortest_48 (zg_6_4 (zg_11_1 ht)) (by decide) (Nat.le_of_ble_eq_true rfl) (Nat.le_of_ble_eq_true rfl) rfl rfl (fun M3 => ?_)
          refine ev_iload_n dd_X11_shortest_51 1 rfl ?_
          refine ev_iconst (v := (-1)) dd_X11_shortest_52 (by decide) ?_
          refine ev_jo (fun (k2 : Int32 → zM → zO) => ∀ (w1 : Int32) (M5 : zM), zEv l G Y_X11_shortest 83 1 80 [] [.int w1] M5 (k2 w1 M5)) ?_ (fun k2 hk2 => ?_)
          · intro w1 M5
            exact ev_iret dd_X11_shortest_80 rfl (Nat.le_of_ble_eq_true rfl) rfl
          · refine ev_icmp_ne 69 dd_X11_shortest_53 (by decide) ?_ ?_
            · refine ev_aload_n dd_X11_shortest_69 0 rfl ?_
              refine ev_lv (lv' := [(2, .int a2)]) [1] rfl ?_
              refine ev_getR gf_RX11_19 dd_X11_shortest_70 ht (by decide) ?_
              refine ev_getR gf_RX11_172 dd_X11_shortest_73 (zg_11_1 ht) (by decide) ?_
              refine ev_iload_n dd_X11_shortest_76 0 rfl ?_
              refine ev_lv (lv' := []) [] rfl ?_
              refine ev_callVI (As := [.int a2]) cl_RX11_320 (ct_X9_shortestOrder l hl G (zgr (zgr t 1) 4) (zg_6_4 (zg_11_1 ht)) a2 M3) dd_X11_shortest_77 (zg_6_4 (zg_11_1 ht)) (by decide) (Nat.le_of_ble_eq_true rfl) (Nat.le_of_ble_eq_true rfl) rfl rfl (fun r2 M4 => ?_)
              exact hk2 _ _
            · refine ev_lv (lv' := [(0, .ref (G.2.1 + t))]) [0] rfl ?_
              refine ev_aload_n dd_X11_shortest_56 0 rfl ?_
              refine ev_lv (lv' := []) [] rfl ?_
              refine ev_getR gf_RX11_19 dd_X11_shortest_57 ht (by decide) ?_
              refine ev_getR gf_RX11_172 dd_X11_shortest_60 (zg_11_1 ht) (by decide) ?_
              refine ev_getI gf_RX11_317 dd_X11_shortest_63 (zg_6_4 (zg_11_1 ht)) (by decide) ?_
              refine ev_goto 80 dd_X11_shortest_66 (by decide) ?_
              exact hk2 _ _
        · refine ev_lv (lv' := []) [] rfl ?_
          exact hk1 _
/-! X11_swap -/
theorem dd_X11_swap_0 : decode Y_X11_swap.2.1 0 = .ok (.aload_n 0, 1) := by decide +kernel
theorem dd_X11_swap_1 : decode Y_X11_swap.2.1 1 = .ok (.iload_n 1, 1) := by decide +kernel
theorem dd_X11_swap_2 : decode Y_X11_swap.2.1 2 = .ok (.invokevirtual 203, 3) := by decide +kernel
theorem dd_X11_swap_5 : decode Y_X11_swap.2.1 5 = .ok (.aload_n 0, 1) := by decide +kernel
theorem dd_X11_swap_6 : decode Y_X11_swap.2.1 6 = .ok (.iload_n 2, 1) := by decide +kernel
theorem dd_X11_swap_7 : decode Y_X11_swap.2.1 7 = .ok (.invokevirtual 203, 3) := by decide +kernel
theorem dd_X11_swap_10 : decode Y_X11_swap.2.1 10 = .ok (.iload_n 1, 1) := by decide +kernel
theorem dd_X11_swap_11 : decode Y_X11_swap.2.1 11 = .ok (.iload_n 2, 1) := by decide +kernel
theorem dd_X11_swap_12 : decode Y_X11_swap.2.1 12 = .ok (.if_icmp .eq 15, 3) := by decide +kernel
theorem dd_X11_swap_15 : decode Y_X11_swap.2.1 15 = .ok (.aload_n 0, 1) := by decide +kernel
theorem dd_X11_swap_16 : decode Y_X11_swap.2.1 16 = .ok (.getfield 40, 3) := by decide +kernel
theorem dd_X11_swap_19 : decode Y_X11_swap.2.1 19 = .ok (.iload_n 1, 1) := by decide +kernel
theorem dd_X11_swap_20 : decode Y_X11_swap.2.1 20 = .ok (.iload_n 2, 1) := by decide +kernel
theorem dd_X11_swap_21 : decode Y_X11_swap.2.1 21 = .ok (.invokevirtual 215, 3) := by decide +kernel
theorem dd_X11_swap_24 : decode Y_X11_swap.2.1 24 = .ok (.ifCond .ne 16, 3) := by decide +kernel
theorem dd_X11_swap_27 : decode Y_X11_swap.2.1 27 = .ok (.aload_n 0, 1) := by decide +kernel
theorem dd_X11_swap_28 : decode Y_X11_swap.2.1 28 = .ok (.getfield 96, 3) := by decide +kernel
theorem dd_X11_swap_31 : decode Y_X11_swap.2.1 31 = .ok (.iconst 1, 1) := by decide +kernel
theorem dd_X11_swap_32 : decode Y_X11_swap.2.1 32 = .ok (.dup2, 1) := by decide +kernel
theorem dd_X11_swap_33 : decode Y_X11_swap.2.1 33 = .ok (.iaload, 1) := by decide +kernel
theorem dd_X11_swap_34 : decode Y_X11_swap.2.1 34 = .ok (.iconst 1, 1) := by decide +kernel
theorem dd_X11_swap_35 : decode Y_X11_swap.2.1 35 = .ok (.iadd, 1) := by decide +kernel
theorem dd_X11_swap_36 : decode Y_X11_swap.2.1 36 = .ok (.iastore, 1) := by decide +kernel
theorem dd_X11_swap_37 : decode Y_X11_swap.2.1 37 = .ok (.bipush (-99), 2) := by decide +kernel
theorem dd_X11_swap_39 : decode Y_X11_swap.2.1 39 = .ok (.ireturn, 1) := by decide +kernel
theorem dd_X11_swap_40 : decode Y_X11_swap.2.1 40 = .ok (.aload_n 0, 1) := by decide +kernel
theorem dd_X11_swap_41 : decode Y_X11_swap.2.1 41 = .ok (.dup, 1) := by decide +kernel
theorem dd_X11_swap_42 : decode Y_X11_swap.2.1 42 = .ok (.getfield 104, 3) := by decide +kernel
theorem dd_X11_swap_45 : decode Y_X11_swap.2.1 45 = .ok (.iconst 1, 1) := by decide +kernel
theorem dd_X11_swap_46 : decode Y_X11_swap.2.1 46 = .ok (.iadd, 1) := by decide +kernel
theorem dd_X11_swap_47 : decode Y_X11_swap.2.1 47 = .ok (.putfield 104, 3) := by decide +kernel
theorem dd_X11_swap_50 : decode Y_X11_swap.2.1 50 = .ok (.aload_n 0, 1) := by decide +kernel
theorem dd_X11_swap_51 : decode Y_X11_swap.2.1 51 = .ok (.getfield 53, 3) := by decide +kernel
theorem dd_X11_swap_54 : decode Y_X11_swap.2.1 54 = .ok (.iconst 0, 1) := by decide +kernel
theorem dd_X11_swap_55 : decode Y_X11_swap.2.1 55 = .ok (.iload_n 1, 1) := by decide +kernel
theorem dd_X11_swap_56 : decode Y_X11_swap.2.1 56 = .ok (.iload_n 2, 1) := by decide +kernel
theorem dd_X11_swap_57 : decode Y_X11_swap.2.1 57 = .ok (.iconst 0, 1) := by decide +kernel
theorem dd_X11_swap_58 : decode Y_X11_swap.2.1 58 = .ok (.invokevirtual 219, 3) := by decide +kernel
theorem dd_X11_swap_61 : decode Y_X11_swap.2.1 61 = .ok (.aload_n 0, 1) := by decide +kernel
theorem dd_X11_swap_62 : decode Y_X11_swap.2.1 62 = .ok (.getfield 40, 3) := by decide +kernel
theorem dd_X11_swap_65 : decode Y_X11_swap.2.1 65 = .ok (.iload_n 1, 1) := by decide +kernel
theorem dd_X11_swap_66 : decode Y_X11_swap.2.1 66 = .ok (.iload_n 2, 1) := by decide +kernel
theorem dd_X11_swap_67 : decode Y_X11_swap.2.1 67 = .ok (.invokevirtual 223, 3) := by decide +kernel
theorem dd_X11_swap_70 : decode Y_X11_swap.2.1 70 = .ok (.ireturn, 1) := by decide +kernel
def F_X11_swap (t : Nat) (a1 : Int32) (a2 : Int32) (M : zM) : zO := zbV (F_X11_needIsle t a1 M) (fun M1 => zbV (F_X11_needIsle t a2 M1) (fun M2 => zjo (fun  (M7 : zM) => zck (zin 1 3) (zck (zin 1 3) (zst (zup M7 (zgr t 13) (zix 1) ((M7 (zgr t 13) (zix 1)) + 1)) (fun M8 => zI (-99) M8)))) (fun (k1 : zM → zO) => zit (a1 = a2) (k1 M2) (zbI (F_X10_lets (zgr t 4) a1 a2 M2) (fun r1 M3 => zit (r1 = 0) (k1 M3) (zst (zup M3 t 15 ((M3 t 15) + 1)) (fun M4 => zbV (F_X3_add (zgr t 7) 0 a1 a2 0 M4) (fun M5 => zbI (F_X10_exchange (zgr t 4) a1 a2 M5) (fun r2 M6 => zI r2 M6)))))))))
set_option maxHeartbeats 1000000 in
set_option maxRecDepth 20000 in
theorem ct_X11_swap (l : Launch) (hl : l.stackTraces = false) (G : zG) (t : Nat) (ht : zsh t = 11) (a1 : Int32) (a2 : Int32) (M : zM) : zMt l G Y_X11_swap 12 [.ref (G.2.1 + t), .int a1, .int a2] M (F_X11_swap t a1 a2 M) := by
  refine zMt_of (by decide +kernel) (Nat.le_of_ble_eq_true rfl) ?_
  show zEv l G Y_X11_swap 12 0 0 [(0, .ref (G.2.1 + t)), (1, .int a1), (2, .int a2)] [] M (zbV (F_X11_needIsle t a1 M) (fun M1 => zbV (F_X11_needIsle t a2 M1) (fun M2 => zjo (fun  (M7 : zM) => zck (zin 1 3) (zck (zin 1 3) (zst (zup M7 (zgr t 13) (zix 1) ((M7 (zgr t 13) (zix 1)) + 1)) (fun M8 => zI (-99) M8)))) (fun (k1 : zM → zO) => zit (a1 = a2) (k1 M2) (zbI (F_X10_lets (zgr t 4) a1 a2 M2) (fun r1 M3 => zit (r1 = 0) (k1 M3) (zst (zup M3 t 15 ((M3 t 15) + 1)) (fun M4 => zbV (F_X3_add (zgr t 7) 0 a1 a2 0 M4) (fun M5 => zbI (F_X10_exchange (zgr t 4) a1 a2 M5) (fun r2 M6 => zI r2 M6))))))))))
  refine ev_aload_n dd_X11_swap_0 0 rfl ?_
  refine ev_iload_n dd_X11_swap_1 1 rfl ?_
  refine ev_callVV (As := [.int a1]) cl_RX11_203 (ct_X11_needIsle l hl G t ht a1 M) dd_X11_swap_2 ht (by decide) (Nat.le_of_ble_eq_true rfl) (Nat.le_of_ble_eq_true rfl) rfl rfl (fun M1 => ?_)
  refine ev_aload_n dd_X11_swap_5 0 rfl ?_
  refine ev_iload_n dd_X11_swap_6 2 rfl ?_
  refine ev_callVV (As := [.int a2]) cl_RX11_203 (ct_X11_needIsle l hl G t ht a2 M1) dd_X11_swap_7 ht (by decide) (Nat.le_of_ble_eq_true rfl) (Nat.le_of_ble_eq_true rfl) rfl rfl (fun M2 => ?_)
  refine ev_iload_n dd_X11_swap_10 1 rfl ?_
  refine ev_iload_n dd_X11_swap_11 2 rfl ?_
  refine ev_jo (fun (k1 : zM → zO) => ∀  (M7 : zM), zEv l G Y_X11_swap 12 2 27 [(0, .ref (G.2.1 + t))] [] M7 (k1 M7)) ?_ (fun k1 hk1 => ?_)
  · intro M7
    refine ev_aload_n dd_X11_swap_27 0 rfl ?_
    refine ev_lv (lv' := []) [] rfl ?_
    refine ev_getR gf_RX11_96 dd_X11_swap_28 ht (by decide) ?_
    refine ev_iconst (v := 1) dd_X11_swap_31 (by decide) ?_
    refine ev_dup2 dd_X11_swap_32 rfl rfl ?_
    refine ev_iald dd_X11_swap_33 ((zg_11_13 ht).1) ((zg_11_13 ht).2) ?_
    refine ev_iconst (v := 1) dd_X11_swap_34 (by decide) ?_
    refine ev_iadd dd_X11_swap_35 ?_
    refine ev_iast dd_X11_swap_36 ((zg_11_13 ht).1) ((zg_11_13 ht).2) ?_
    refine ev_st (fun M8 => ?_)
    refine ev_bipush (v := (-99)) dd_X11_swap_37 (by decide) ?_
    exact ev_iret dd_X11_swap_39 rfl (Nat.le_of_ble_eq_true rfl) rfl
  · refine ev_icmp_eq 27 dd_X11_swap_12 (by decide) ?_ ?_
    · refine ev_lv (lv' := [(0, .ref (G.2.1 + t))]) [0] rfl ?_
      exact hk1 _
    · refine ev_aload_n dd_X11_swap_15 0 rfl ?_
      refine ev_getR gf_RX11_40 dd_X11_swap_16 ht (by decide) ?_
      refine ev_iload_n dd_X11_swap_19 1 rfl ?_
      refine ev_iload_n dd_X11_swap_20 2 rfl ?_
      refine ev_callVI (As := [.int a1, .int a2]) cl_RX11_215 (ct_X10_lets l hl G (zgr t 4) (zg_11_4 ht) a1 a2 M2) dd_X11_swap_21 (zg_11_4 ht) (by decide) (Nat.le_of_ble_eq_true rfl) (Nat.le_of_ble_eq_true rfl) rfl rfl (fun r1 M3 => ?_)
      refine ev_if_ne 40 dd_X11_swap_24 (by decide) ?_ ?_
      · refine ev_aload_n dd_X11_swap_40 0 rfl ?_
        refine ev_dup dd_X11_swap_41 rfl ?_
        refine ev_getI gf_RX11_104 dd_X11_swap_42 ht (by decide) ?_
        refine ev_iconst (v := 1) dd_X11_swap_45 (by decide) ?_
        refine ev_iadd dd_X11_swap_46 ?_
        refine ev_putI gw_RX11_104 dd_X11_swap_47 ht (by decide) ?_
        refine ev_st (fun M4 => ?_)
        refine ev_aload_n dd_X11_swap_50 0 rfl ?_
        refine ev_getR gf_RX11_53 dd_X11_swap_51 ht (by decide) ?_
        refine ev_iconst (v := 0) dd_X11_swap_54 (by decide) ?_
        refine ev_iload_n dd_X11_swap_55 1 rfl ?_
        refine ev_iload_n dd_X11_swap_56 2 rfl ?_
        refine ev_iconst (v := 0) dd_X11_swap_57 (by decide) ?_
        refine ev_callVV (As := [.int 0, .int a1, .int a2, .int 0]) cl_RX11_219 (ct_X3_add l hl G (zgr t 7) (zg_11_7 ht) 0 a1 a2 0 M4) dd_X11_swap_58 (zg_11_7 ht) (by decide) (Nat.le_of_ble_eq_true rfl) (Nat.le_of_ble_eq_true rfl) rfl rfl (fun M5 => ?_)
        refine ev_aload_n dd_X11_swap_61 0 rfl ?_
        refine ev_lv (lv' := [(1, .int a1), (2, .int a2)]) [1, 2] rfl ?_
        refine ev_getR gf_RX11_40 dd_X11_swap_62 ht (by decide) ?_
        refine ev_iload_n dd_X11_swap_65 0 rfl ?_
        refine ev_lv (lv' := [(2, .int a2)]) [1] rfl ?_
        refine ev_iload_n dd_X11_swap_66 0 rfl ?_
        refine ev_lv (lv' := []) [] rfl ?_
        refine ev_callVI (As := [.int a1, .int a2]) cl_RX11_223 (ct_X10_exchange l hl G (zgr t 4) (zg_11_4 ht) a1 a2 M5) dd_X11_swap_67 (zg_11_4 ht) (by decide) (Nat.le_of_ble_eq_true rfl) (Nat.le_of_ble_eq_true rfl) rfl rfl (fun r2 M6 => ?_)
        exact ev_iret dd_X11_swap_70 rfl (Nat.le_of_ble_eq_true rfl) rfl
      · refine ev_lv (lv' := [(0, .ref (G.2.1 + t))]) [0] rfl ?_
        exact hk1 _
/-! X4_figure -/
theorem dd_X4_figure_0 : decode Y_X4_figure.2.1 0 = .ok (.iload_n 0, 1) := by decide +kernel
theorem dd_X4_figure_1 : decode Y_X4_figure.2.1 1 = .ok (.iconst 3, 1) := by decide +kernel
theorem dd_X4_figure_2 : decode Y_X4_figure.2.1 2 = .ok (.iload_n 1, 1) := by decide +kernel
theorem dd_X4_figure_3 : decode Y_X4_figure.2.1 3 = .ok (.imul, 1) := by decide +kernel
theorem dd_X4_figure_4 : decode Y_X4_figure.2.1 4 = .ok (.ishr, 1) := by decide +kernel
theorem dd_X4_figure_5 : decode Y_X4_figure.2.1 5 = .ok (.bipush 7, 2) := by decide +kernel
theorem dd_X4_figure_7 : decode Y_X4_figure.2.1 7 = .ok (.iand, 1) := by decide +kernel
theorem dd_X4_figure_8 : decode Y_X4_figure.2.1 8 = .ok (.ireturn, 1) := by decide +kernel
def F_X4_figure (a0 : Int32) (a1 : Int32) (M : zM) : zO := zI ((a0 >>> ((3 * a1) &&& 31)) &&& 7) M
set_option maxHeartbeats 1000000 in
set_option maxRecDepth 20000 in
theorem ct_X4_figure (l : Launch) (hl : l.stackTraces = false) (G : zG) (a0 : Int32) (a1 : Int32) (M : zM) : zMt l G Y_X4_figure 1 [.int a0, .int a1] M (F_X4_figure a0 a1 M) := by
  refine zMt_of (by decide +kernel) (Nat.le_of_ble_eq_true rfl) ?_
  show zEv l G Y_X4_figure 1 0 0 [(0, .int a0), (1, .int a1)] [] M (zI ((a0 >>> ((3 * a1) &&& 31)) &&& 7) M)
  refine ev_iload_n dd_X4_figure_0 0 rfl ?_
  refine ev_lv (lv' := [(1, .int a1)]) [1] rfl ?_
  refine ev_iconst (v := 3) dd_X4_figure_1 (by decide) ?_
  refine ev_iload_n dd_X4_figure_2 0 rfl ?_
  refine ev_lv (lv' := []) [] rfl ?_
  refine ev_imul dd_X4_figure_3 ?_
  refine ev_ishr dd_X4_figure_4 ?_
  refine ev_bipush (v := 7) dd_X4_figure_5 (by decide) ?_
  refine ev_iand dd_X4_figure_7 ?_
  exact ev_iret dd_X4_figure_8 rfl (Nat.le_of_ble_eq_true rfl) rfl
/-! X4_number -/
theorem dd_X4_number_0 : decode Y_X4_number.2.1 0 = .ok (.aload_n 0, 1) := by decide +kernel
theorem dd_X4_number_1 : decode Y_X4_number.2.1 1 = .ok (.getfield 28, 3) := by decide +kernel
theorem dd_X4_number_4 : decode Y_X4_number.2.1 4 = .ok (.getfield 36, 3) := by decide +kernel
theorem dd_X4_number_7 : decode Y_X4_number.2.1 7 = .ok (.getfield 42, 3) := by decide +kernel
theorem dd_X4_number_10 : decode Y_X4_number.2.1 10 = .ok (.istore_n 2, 1) := by decide +kernel
theorem dd_X4_number_11 : decode Y_X4_number.2.1 11 = .ok (.iconst 0, 1) := by decide +kernel
theorem dd_X4_number_12 : decode Y_X4_number.2.1 12 = .ok (.istore_n 3, 1) := by decide +kernel
theorem dd_X4_number_13 : decode Y_X4_number.2.1 13 = .ok (.iconst 0, 1) := by decide +kernel
theorem dd_X4_number_14 : decode Y_X4_number.2.1 14 = .ok (.istore 4, 2) := by decide +kernel
theorem dd_X4_number_16 : decode Y_X4_number.2.1 16 = .ok (.iconst 0, 1) := by decide +kernel
theorem dd_X4_number_17 : decode Y_X4_number.2.1 17 = .ok (.istore 5, 2) := by decide +kernel
theorem dd_X4_number_19 : decode Y_X4_number.2.1 19 = .ok (.iload 5, 2) := by decide +kernel
theorem dd_X4_number_21 : decode Y_X4_number.2.1 21 = .ok (.iload_n 2, 1) := by decide +kernel
theorem dd_X4_number_22 : decode Y_X4_number.2.1 22 = .ok (.if_icmp .ge 46, 3) := by decide +kernel
theorem dd_X4_number_25 : decode Y_X4_number.2.1 25 = .ok (.iconst 1, 1) := by decide +kernel
theorem dd_X4_number_26 : decode Y_X4_number.2.1 26 = .ok (.iload_n 1, 1) := by decide +kernel
theorem dd_X4_number_27 : decode Y_X4_number.2.1 27 = .ok (.iload 5, 2) := by decide +kernel
theorem dd_X4_number_29 : decode Y_X4_number.2.1 29 = .ok (.invokestatic 47, 3) := by decide +kernel
theorem dd_X4_number_32 : decode Y_X4_number.2.1 32 = .ok (.ishl, 1) := by decide +kernel
theorem dd_X4_number_33 : decode Y_X4_number.2.1 33 = .ok (.istore 6, 2) := by decide +kernel
theorem dd_X4_number_35 : decode Y_X4_number.2.1 35 = .ok (.iload_n 3, 1) := by decide +kernel
theorem dd_X4_number_36 : decode Y_X4_number.2.1 36 = .ok (.iload_n 2, 1) := by decide +kernel
theorem dd_X4_number_37 : decode Y_X4_number.2.1 37 = .ok (.iload 5, 2) := by decide +kernel
theorem dd_X4_number_39 : decode Y_X4_number.2.1 39 = .ok (.isub, 1) := by decide +kernel
theorem dd_X4_number_40 : decode Y_X4_number.2.1 40 = .ok (.imul, 1) := by decide +kernel
theorem dd_X4_number_41 : decode Y_X4_number.2.1 41 = .ok (.iload 4, 2) := by decide +kernel
theorem dd_X4_number_43 : decode Y_X4_number.2.1 43 = .ok (.iconst (-1), 1) := by decide +kernel
theorem dd_X4_number_44 : decode Y_X4_number.2.1 44 = .ok (.ixor, 1) := by decide +kernel
theorem dd_X4_number_45 : decode Y_X4_number.2.1 45 = .ok (.iload 6, 2) := by decide +kernel
theorem dd_X4_number_47 : decode Y_X4_number.2.1 47 = .ok (.iconst 1, 1) := by decide +kernel
theorem dd_X4_number_48 : decode Y_X4_number.2.1 48 = .ok (.isub, 1) := by decide +kernel
theorem dd_X4_number_49 : decode Y_X4_number.2.1 49 = .ok (.iand, 1) := by decide +kernel
theorem dd_X4_number_50 : decode Y_X4_number.2.1 50 = .ok (.invokestatic 54, 3) := by decide +kernel
theorem dd_X4_number_53 : decode Y_X4_number.2.1 53 = .ok (.iadd, 1) := by decide +kernel
theorem dd_X4_number_54 : decode Y_X4_number.2.1 54 = .ok (.istore_n 3, 1) := by decide +kernel
theorem dd_X4_number_55 : decode Y_X4_number.2.1 55 = .ok (.iload 4, 2) := by decide +kernel
theorem dd_X4_number_57 : decode Y_X4_number.2.1 57 = .ok (.iload 6, 2) := by decide +kernel
theorem dd_X4_number_59 : decode Y_X4_number.2.1 59 = .ok (.ior, 1) := by decide +kernel
theorem dd_X4_number_60 : decode Y_X4_number.2.1 60 = .ok (.istore 4, 2) := by decide +kernel
theorem dd_X4_number_62 : decode Y_X4_number.2.1 62 = .ok (.iinc 5 1, 3) := by decide +kernel
theorem dd_X4_number_65 : decode Y_X4_number.2.1 65 = .ok (.goto (-46), 3) := by decide +kernel
theorem dd_X4_number_68 : decode Y_X4_number.2.1 68 = .ok (.iload_n 3, 1) := by decide +kernel
theorem dd_X4_number_69 : decode Y_X4_number.2.1 69 = .ok (.ifCond .lt 14, 3) := by decide +kernel
theorem dd_X4_number_72 : decode Y_X4_number.2.1 72 = .ok (.iload_n 3, 1) := by decide +kernel
theorem dd_X4_number_73 : decode Y_X4_number.2.1 73 = .ok (.sipush 720, 3) := by decide +kernel
theorem dd_X4_number_76 : decode Y_X4_number.2.1 76 = .ok (.if_icmp .ge 7, 3) := by decide +kernel
theorem dd_X4_number_79 : decode Y_X4_number.2.1 79 = .ok (.iload_n 3, 1) := by decide +kernel
theorem dd_X4_number_80 : decode Y_X4_number.2.1 80 = .ok (.goto 4, 3) := by decide +kernel
theorem dd_X4_number_83 : decode Y_X4_number.2.1 83 = .ok (.iconst 0, 1) := by decide +kernel
theorem dd_X4_number_84 : decode Y_X4_number.2.1 84 = .ok (.ireturn, 1) := by decide +kernel
def F_X4_number_L19 (x1 : Int32) (x2 : Int32) (K68 : Int32 → zM → zO) : Nat → Int32 → Int32 → Int32 → zM → zO
  | 0, _, _, _, _ => none
  | n + 1, x3, x4, x5, M => zit (x2 ≤ x5) (K68 x3 M) (zbI (F_X4_figure x1 x5 M) (fun r1 M1 => zlt ((1 : Int32) <<< (r1 &&& 31)) (fun v2 => zbI (F_J6_bitCount_0f7a4 ((x4 ^^^ (-1)) &&& (v2 - 1)) M1) (fun r2 M2 => zlt ((x3 * (x2 - x5)) + r2) (fun v3 => zlt (x4 ||| v2) (fun v4 => F_X4_number_L19 x1 x2 K68 n v3 v4 (x5 + 1) M2))))))
def F_X4_number (t : Nat) (a1 : Int32) (M : zM) : zO := zlt (M (zgr (zgr t 0) 0) 0) (fun v1 => F_X4_number_L19 a1 v1 (fun (y1 : Int32) (M3 : zM) => zjo (fun (w1 : Int32) (M5 : zM) => zI w1 M5) (fun (k1 : Int32 → zM → zO) => zjo (fun  (M4 : zM) => k1 0 M4) (fun (k2 : zM → zO) => zit (y1 < 0) (k2 M3) (zit (720 ≤ y1) (k2 M3) (k1 y1 M3))))) zN 0 0 0 M)
set_option maxHeartbeats 1000000 in
set_option maxRecDepth 20000 in
theorem ct_X4_number_L19 (l : Launch) (hl : l.stackTraces = false) (G : zG) (x1 : Int32) (x2 : Int32) (K68 : Int32 → zM → zO) (hK68 : ∀ (x3 : Int32) (M : zM), zEv l G Y_X4_number 2 0 68 [(3, .int x3)] [] M (K68 x3 M)) : ∀ (n : Nat) (x3 : Int32) (x4 : Int32) (x5 : Int32) (M : zM), zEv l G Y_X4_number 2 0 19 [(1, .int x1), (2, .int x2), (3, .int x3), (4, .int x4), (5, .int x5)] [] M (F_X4_number_L19 x1 x2 K68 n x3 x4 x5 M) := by
  intro n
  induction n with
  | zero => intro x3 x4 x5 M; exact ev_none
  | succ n ih =>
    intro x3 x4 x5 M
    show zEv l G Y_X4_number 2 0 19 [(1, .int x1), (2, .int x2), (3, .int x3), (4, .int x4), (5, .int x5)] [] M (zit (x2 ≤ x5) (K68 x3 M) (zbI (F_X4_figure x1 x5 M) (fun r1 M1 => zlt ((1 : Int32) <<< (r1 &&& 31)) (fun v2 => zbI (F_J6_bitCount_0f7a4 ((x4 ^^^ (-1)) &&& (v2 - 1)) M1) (fun r2 M2 => zlt ((x3 * (x2 - x5)) + r2) (fun v3 => zlt (x4 ||| v2) (fun v4 => F_X4_number_L19 x1 x2 K68 n v3 v4 (x5 + 1) M2)))))))
    refine ev_iload dd_X4_number_19 4 rfl ?_
    refine ev_iload_n dd_X4_number_21 1 rfl ?_
    refine ev_icmp_ge 68 dd_X4_number_22 (by decide) ?_ ?_
    · refine ev_lv (lv' := [(3, .int x3)]) [2] rfl ?_
      exact hK68 _ _
    · refine ev_iconst (v := 1) dd_X4_number_25 (by decide) ?_
      refine ev_iload_n dd_X4_number_26 0 rfl ?_
      refine ev_iload dd_X4_number_27 4 rfl ?_
      refine ev_callSI (As := [.int x1, .int x5]) cl_RX4_47 (ct_X4_figure l hl G x1 x5 M) dd_X4_number_29 (by decide) (Nat.le_of_ble_eq_true rfl) (Nat.le_of_ble_eq_true rfl) rfl rfl (fun r1 M1 => ?_)
      refine ev_ishl dd_X4_number_32 ?_
      refine ev_topi (fun v2 => ?_)
      refine ev_istore (i := 6) (lv' := [(1, .int x1), (2, .int x2), (3, .int x3), (4, .int x4), (5, .int x5), (6, .int v2)]) [1, 2, 3, 4, 5, 0] dd_X4_number_33 (by decide) rfl ?_
      refine ev_iload_n dd_X4_number_35 2 rfl ?_
      refine ev_lv (lv' := [(1, .int x1), (2, .int x2), (4, .int x4), (5, .int x5), (6, .int v2)]) [0, 1, 3, 4, 5] rfl ?_
      refine ev_iload_n dd_X4_number_36 1 rfl ?_
      refine ev_iload dd_X4_number_37 3 rfl ?_
      refine ev_isub dd_X4_number_39 ?_
      refine ev_imul dd_X4_number_40 ?_
      refine ev_iload dd_X4_number_41 2 rfl ?_
      refine ev_iconst (v := (-1)) dd_X4_number_43 (by decide) ?_
      refine ev_ixor dd_X4_number_44 ?_
      refine ev_iload dd_X4_number_45 4 rfl ?_
      refine ev_iconst (v := 1) dd_X4_number_47 (by decide) ?_
      refine ev_isub dd_X4_number_48 ?_
      refine ev_iand dd_X4_number_49 ?_
      refine ev_callSI (As := [.int ((x4 ^^^ (-1)) &&& (v2 - 1))]) cl_RX4_54 (ct_J6_bitCount_0f7a4 l hl G ((x4 ^^^ (-1)) &&& (v2 - 1)) M1) dd_X4_number_50 (by decide) (Nat.le_of_ble_eq_true rfl) (Nat.le_of_ble_eq_true rfl) rfl rfl (fun r2 M2 => ?_)
      refine ev_iadd dd_X4_number_53 ?_
      refine ev_topi (fun v3 => ?_)
      refine ev_istore_n (i := 3) (lv' := [(1, .int x1), (2, .int x2), (3, .int v3), (4, .int x4), (5, .int x5), (6, .int v2)]) [1, 2, 0, 3, 4, 5] dd_X4_number_54 rfl (by decide) rfl ?_
      refine ev_iload dd_X4_number_55 3 rfl ?_
      refine ev_lv (lv' := [(1, .int x1), (2, .int x2), (3, .int v3), (5, .int x5), (6, .int v2)]) [0, 1, 2, 4, 5] rfl ?_
      refine ev_iload dd_X4_number_57 4 rfl ?_
      refine ev_lv (lv' := [(1, .int x1), (2, .int x2), (3, .int v3), (5, .int x5)]) [0, 1, 2, 3] rfl ?_
      refine ev_ior dd_X4_number_59 ?_
      refine ev_topi (fun v4 => ?_)
      refine ev_istore (i := 4) (lv' := [(1, .int x1), (2, .int x2), (3, .int v3), (4, .int v4), (5, .int x5)]) [1, 2, 3, 0, 4] dd_X4_number_60 (by decide) rfl ?_
      refine ev_iinc (j := 4) (v := 1) (lv' := [(1, .int x1), (2, .int x2), (3, .int v3), (4, .int v4), (5, .int (x5 + 1))]) [1, 2, 3, 4, 0] dd_X4_number_62 rfl (by decide) (by decide) rfl ?_
      refine ev_goto 19 dd_X4_number_65 (by decide) ?_
      exact ih _ _ _ _
set_option maxHeartbeats 1000000 in
set_option maxRecDepth 20000 in
theorem ct_X4_number (l : Launch) (hl : l.stackTraces = false) (G : zG) (t : Nat) (ht : zsh t = 4) (a1 : Int32) (M : zM) : zMt l G Y_X4_number 2 [.ref (G.2.1 + t), .int a1] M (F_X4_number t a1 M) := by
  refine zMt_of (by decide +kernel) (Nat.le_of_ble_eq_true rfl) ?_
  show zEv l G Y_X4_number 2 0 0 [(0, .ref (G.2.1 + t)), (1, .int a1)] [] M (zlt (M (zgr (zgr t 0) 0) 0) (fun v1 => F_X4_number_L19 a1 v1 (fun (y1 : Int32) (M3 : zM) => zjo (fun (w1 : Int32) (M5 : zM) => zI w1 M5) (fun (k1 : Int32 → zM → zO) => zjo (fun  (M4 : zM) => k1 0 M4) (fun (k2 : zM → zO) => zit (y1 < 0) (k2 M3) (zit (720 ≤ y1) (k2 M3) (k1 y1 M3))))) zN 0 0 0 M))
  refine ev_aload_n dd_X4_number_0 0 rfl ?_
  refine ev_lv (lv' := [(1, .int a1)]) [1] rfl ?_
  refine ev_getR gf_RX4_28 dd_X4_number_1 ht (by decide) ?_
  refine ev_getR gf_RX4_36 dd_X4_number_4 (zg_4_0 ht) (by decide) ?_
  refine ev_getI gf_RX4_42 dd_X4_number_7 (zg_10_0 (zg_4_0 ht)) (by decide) ?_
  refine ev_topi (fun v1 => ?_)
  refine ev_istore_n (i := 2) (lv' := [(1, .int a1), (2, .int v1)]) [1, 0] dd_X4_number_10 rfl (by decide) rfl ?_
  refine ev_iconst (v := 0) dd_X4_number_11 (by decide) ?_
  refine ev_istore_n (i := 3) (lv' := [(1, .int a1), (2, .int v1), (3, .int 0)]) [1, 2, 0] dd_X4_number_12 rfl (by decide) rfl ?_
  refine ev_iconst (v := 0) dd_X4_number_13 (by decide) ?_
  refine ev_istore (i := 4) (lv' := [(1, .int a1), (2, .int v1), (3, .int 0), (4, .int 0)]) [1, 2, 3, 0] dd_X4_number_14 (by decide) rfl ?_
  refine ev_iconst (v := 0) dd_X4_number_16 (by decide) ?_
  refine ev_istore (i := 5) (lv' := [(1, .int a1), (2, .int v1), (3, .int 0), (4, .int 0), (5, .int 0)]) [1, 2, 3, 4, 0] dd_X4_number_17 (by decide) rfl ?_
  refine ct_X4_number_L19 l hl G a1 v1 _ (fun y1 M3 => ?_) zN _ _ _ _
  refine ev_iload_n dd_X4_number_68 0 rfl ?_
  refine ev_jo (fun (k1 : Int32 → zM → zO) => ∀ (w1 : Int32) (M5 : zM), zEv l G Y_X4_number 2 0 84 [] [.int w1] M5 (k1 w1 M5)) ?_ (fun k1 hk1 => ?_)
  · intro w1 M5
    exact ev_iret dd_X4_number_84 rfl (Nat.le_of_ble_eq_true rfl) rfl
  · refine ev_jo (fun (k2 : zM → zO) => ∀  (M4 : zM), zEv l G Y_X4_number 2 0 83 [] [] M4 (k2 M4)) ?_ (fun k2 hk2 => ?_)
    · intro M4
      refine ev_iconst (v := 0) dd_X4_number_83 (by decide) ?_
      exact hk1 _ _
    · refine ev_if_lt 83 dd_X4_number_69 (by decide) ?_ ?_
      · refine ev_lv (lv' := []) [] rfl ?_
        exact hk2 _
      · refine ev_iload_n dd_X4_number_72 0 rfl ?_
        refine ev_sipush (v := 720) dd_X4_number_73 (by decide) ?_
        refine ev_icmp_ge 83 dd_X4_number_76 (by decide) ?_ ?_
        · refine ev_lv (lv' := []) [] rfl ?_
          exact hk2 _
        · refine ev_iload_n dd_X4_number_79 0 rfl ?_
          refine ev_lv (lv' := []) [] rfl ?_
          refine ev_goto 84 dd_X4_number_80 (by decide) ?_
          exact hk1 _ _
/-! X4_fewest -/
theorem dd_X4_fewest_0 : decode Y_X4_fewest.2.1 0 = .ok (.aload_n 0, 1) := by decide +kernel
theorem dd_X4_fewest_1 : decode Y_X4_fewest.2.1 1 = .ok (.getfield 19, 3) := by decide +kernel
theorem dd_X4_fewest_4 : decode Y_X4_fewest.2.1 4 = .ok (.aload_n 0, 1) := by decide +kernel
theorem dd_X4_fewest_5 : decode Y_X4_fewest.2.1 5 = .ok (.iload_n 1, 1) := by decide +kernel
theorem dd_X4_fewest_6 : decode Y_X4_fewest.2.1 6 = .ok (.invokevirtual 83, 3) := by decide +kernel
theorem dd_X4_fewest_9 : decode Y_X4_fewest.2.1 9 = .ok (.iaload, 1) := by decide +kernel
theorem dd_X4_fewest_10 : decode Y_X4_fewest.2.1 10 = .ok (.ireturn, 1) := by decide +kernel
def F_X4_fewest (t : Nat) (a1 : Int32) (M : zM) : zO := zbI (F_X4_number t a1 M) (fun r1 M1 => zck (zin r1 720) (zI (M1 (zgr t 4) (zix r1)) M1))
set_option maxHeartbeats 1000000 in
set_option maxRecDepth 20000 in
theorem ct_X4_fewest (l : Launch) (hl : l.stackTraces = false) (G : zG) (t : Nat) (ht : zsh t = 4) (a1 : Int32) (M : zM) : zMt l G Y_X4_fewest 3 [.ref (G.2.1 + t), .int a1] M (F_X4_fewest t a1 M) := by
  refine zMt_of (by decide +kernel) (Nat.le_of_ble_eq_true rfl) ?_
  show zEv l G Y_X4_fewest 3 0 0 [(0, .ref (G.2.1 + t)), (1, .int a1)] [] M (zbI (F_X4_number t a1 M) (fun r1 M1 => zck (zin r1 720) (zI (M1 (zgr t 4) (zix r1)) M1)))
  refine ev_aload_n dd_X4_fewest_0 0 rfl ?_
  refine ev_getR gf_RX4_19 dd_X4_fewest_1 ht (by decide) ?_
  refine ev_aload_n dd_X4_fewest_4 0 rfl ?_
  refine ev_lv (lv' := [(1, .int a1)]) [1] rfl ?_
  refine ev_iload_n dd_X4_fewest_5 0 rfl ?_
  refine ev_lv (lv' := []) [] rfl ?_
  refine ev_callVI (As := [.int a1]) cl_RX4_83 (ct_X4_number l hl G t ht a1 M) dd_X4_fewest_6 ht (by decide) (Nat.le_of_ble_eq_true rfl) (Nat.le_of_ble_eq_true rfl) rfl rfl (fun r1 M1 => ?_)
  refine ev_iald dd_X4_fewest_9 ((zg_4_4 ht).1) ((zg_4_4 ht).2) ?_
  exact ev_iret dd_X4_fewest_10 rfl (Nat.le_of_ble_eq_true rfl) rfl
/-! X4_fewestOfItself -/
theorem dd_X4_fewestOfItself_0 : decode Y_X4_fewestOfItself.2.1 0 = .ok (.iconst 0, 1) := by decide +kernel
theorem dd_X4_fewestOfItself_1 : decode Y_X4_fewestOfItself.2.1 1 = .ok (.istore_n 2, 1) := by decide +kernel
theorem dd_X4_fewestOfItself_2 : decode Y_X4_fewestOfItself.2.1 2 = .ok (.iconst 0, 1) := by decide +kernel
theorem dd_X4_fewestOfItself_3 : decode Y_X4_fewestOfItself.2.1 3 = .ok (.istore_n 3, 1) := by decide +kernel
theorem dd_X4_fewestOfItself_4 : decode Y_X4_fewestOfItself.2.1 4 = .ok (.iconst 0, 1) := by decide +kernel
theorem dd_X4_fewestOfItself_5 : decode Y_X4_fewestOfItself.2.1 5 = .ok (.istore 4, 2) := by decide +kernel
theorem dd_X4_fewestOfItself_7 : decode Y_X4_fewestOfItself.2.1 7 = .ok (.iload 4, 2) := by decide +kernel
theorem dd_X4_fewestOfItself_9 : decode Y_X4_fewestOfItself.2.1 9 = .ok (.aload_n 0, 1) := by decide +kernel
theorem dd_X4_fewestOfItself_10 : decode Y_X4_fewestOfItself.2.1 10 = .ok (.getfield 28, 3) := by decide +kernel
theorem dd_X4_fewestOfItself_13 : decode Y_X4_fewestOfItself.2.1 13 = .ok (.getfield 36, 3) := by decide +kernel
theorem dd_X4_fewestOfItself_16 : decode Y_X4_fewestOfItself.2.1 16 = .ok (.getfield 42, 3) := by decide +kernel
theorem dd_X4_fewestOfItself_19 : decode Y_X4_fewestOfItself.2.1 19 = .ok (.if_icmp .ge 78, 3) := by decide +kernel
theorem dd_X4_fewestOfItself_22 : decode Y_X4_fewestOfItself.2.1 22 = .ok (.iload_n 2, 1) := by decide +kernel
theorem dd_X4_fewestOfItself_23 : decode Y_X4_fewestOfItself.2.1 23 = .ok (.iload 4, 2) := by decide +kernel
theorem dd_X4_fewestOfItself_25 : decode Y_X4_fewestOfItself.2.1 25 = .ok (.ishr, 1) := by decide +kernel
theorem dd_X4_fewestOfItself_26 : decode Y_X4_fewestOfItself.2.1 26 = .ok (.iconst 1, 1) := by decide +kernel
theorem dd_X4_fewestOfItself_27 : decode Y_X4_fewestOfItself.2.1 27 = .ok (.iand, 1) := by decide +kernel
theorem dd_X4_fewestOfItself_28 : decode Y_X4_fewestOfItself.2.1 28 = .ok (.ifCond .ne 6, 3) := by decide +kernel
theorem dd_X4_fewestOfItself_31 : decode Y_X4_fewestOfItself.2.1 31 = .ok (.iinc 3 1, 3) := by decide +kernel
theorem dd_X4_fewestOfItself_34 : decode Y_X4_fewestOfItself.2.1 34 = .ok (.iload 4, 2) := by decide +kernel
theorem dd_X4_fewestOfItself_36 : decode Y_X4_fewestOfItself.2.1 36 = .ok (.istore 5, 2) := by decide +kernel
theorem dd_X4_fewestOfItself_38 : decode Y_X4_fewestOfItself.2.1 38 = .ok (.iconst 0, 1) := by decide +kernel
theorem dd_X4_fewestOfItself_39 : decode Y_X4_fewestOfItself.2.1 39 = .ok (.istore 6, 2) := by decide +kernel
theorem dd_X4_fewestOfItself_41 : decode Y_X4_fewestOfItself.2.1 41 = .ok (.iload 6, 2) := by decide +kernel
theorem dd_X4_fewestOfItself_43 : decode Y_X4_fewestOfItself.2.1 43 = .ok (.bipush 8, 2) := by decide +kernel
theorem dd_X4_fewestOfItself_45 : decode Y_X4_fewestOfItself.2.1 45 = .ok (.if_icmp .ge 46, 3) := by decide +kernel
theorem dd_X4_fewestOfItself_48 : decode Y_X4_fewestOfItself.2.1 48 = .ok (.iload 5, 2) := by decide +kernel
theorem dd_X4_fewestOfItself_50 : decode Y_X4_fewestOfItself.2.1 50 = .ok (.iconst (-1), 1) := by decide +kernel
theorem dd_X4_fewestOfItself_51 : decode Y_X4_fewestOfItself.2.1 51 = .ok (.if_icmp .eq 40, 3) := by decide +kernel
theorem dd_X4_fewestOfItself_54 : decode Y_X4_fewestOfItself.2.1 54 = .ok (.iload_n 2, 1) := by decide +kernel
theorem dd_X4_fewestOfItself_55 : decode Y_X4_fewestOfItself.2.1 55 = .ok (.iload 5, 2) := by decide +kernel
theorem dd_X4_fewestOfItself_57 : decode Y_X4_fewestOfItself.2.1 57 = .ok (.ishr, 1) := by decide +kernel
theorem dd_X4_fewestOfItself_58 : decode Y_X4_fewestOfItself.2.1 58 = .ok (.iconst 1, 1) := by decide +kernel
theorem dd_X4_fewestOfItself_59 : decode Y_X4_fewestOfItself.2.1 59 = .ok (.iand, 1) := by decide +kernel
theorem dd_X4_fewestOfItself_60 : decode Y_X4_fewestOfItself.2.1 60 = .ok (.ifCond .ne 31, 3) := by decide +kernel
theorem dd_X4_fewestOfItself_63 : decode Y_X4_fewestOfItself.2.1 63 = .ok (.iload_n 2, 1) := by decide +kernel
theorem dd_X4_fewestOfItself_64 : decode Y_X4_fewestOfItself.2.1 64 = .ok (.iconst 1, 1) := by decide +kernel
theorem dd_X4_fewestOfItself_65 : decode Y_X4_fewestOfItself.2.1 65 = .ok (.iload 5, 2) := by decide +kernel
theorem dd_X4_fewestOfItself_67 : decode Y_X4_fewestOfItself.2.1 67 = .ok (.ishl, 1) := by decide +kernel
theorem dd_X4_fewestOfItself_68 : decode Y_X4_fewestOfItself.2.1 68 = .ok (.ior, 1) := by decide +kernel
theorem dd_X4_fewestOfItself_69 : decode Y_X4_fewestOfItself.2.1 69 = .ok (.istore_n 2, 1) := by decide +kernel
theorem dd_X4_fewestOfItself_70 : decode Y_X4_fewestOfItself.2.1 70 = .ok (.aload_n 0, 1) := by decide +kernel
theorem dd_X4_fewestOfItself_71 : decode Y_X4_fewestOfItself.2.1 71 = .ok (.getfield 28, 3) := by decide +kernel
theorem dd_X4_fewestOfItself_74 : decode Y_X4_fewestOfItself.2.1 74 = .ok (.iload_n 1, 1) := by decide +kernel
theorem dd_X4_fewestOfItself_75 : decode Y_X4_fewestOfItself.2.1 75 = .ok (.iload 5, 2) := by decide +kernel
theorem dd_X4_fewestOfItself_77 : decode Y_X4_fewestOfItself.2.1 77 = .ok (.invokestatic 47, 3) := by decide +kernel
theorem dd_X4_fewestOfItself_80 : decode Y_X4_fewestOfItself.2.1 80 = .ok (.invokevirtual 90, 3) := by decide +kernel
theorem dd_X4_fewestOfItself_83 : decode Y_X4_fewestOfItself.2.1 83 = .ok (.istore 5, 2) := by decide +kernel
theorem dd_X4_fewestOfItself_85 : decode Y_X4_fewestOfItself.2.1 85 = .ok (.iinc 6 1, 3) := by decide +kernel
theorem dd_X4_fewestOfItself_88 : decode Y_X4_fewestOfItself.2.1 88 = .ok (.goto (-47), 3) := by decide +kernel
theorem dd_X4_fewestOfItself_91 : decode Y_X4_fewestOfItself.2.1 91 = .ok (.iinc 4 1, 3) := by decide +kernel
theorem dd_X4_fewestOfItself_94 : decode Y_X4_fewestOfItself.2.1 94 = .ok (.goto (-87), 3) := by decide +kernel
theorem dd_X4_fewestOfItself_97 : decode Y_X4_fewestOfItself.2.1 97 = .ok (.aload_n 0, 1) := by decide +kernel
theorem dd_X4_fewestOfItself_98 : decode Y_X4_fewestOfItself.2.1 98 = .ok (.getfield 28, 3) := by decide +kernel
theorem dd_X4_fewestOfItself_101 : decode Y_X4_fewestOfItself.2.1 101 = .ok (.getfield 36, 3) := by decide +kernel
theorem dd_X4_fewestOfItself_104 : decode Y_X4_fewestOfItself.2.1 104 = .ok (.getfield 42, 3) := by decide +kernel
theorem dd_X4_fewestOfItself_107 : decode Y_X4_fewestOfItself.2.1 107 = .ok (.iload_n 3, 1) := by decide +kernel
theorem dd_X4_fewestOfItself_108 : decode Y_X4_fewestOfItself.2.1 108 = .ok (.isub, 1) := by decide +kernel
theorem dd_X4_fewestOfItself_109 : decode Y_X4_fewestOfItself.2.1 109 = .ok (.ireturn, 1) := by decide +kernel
def F_X4_fewestOfItself_L41 (x0 : Nat) (x1 : Int32) (x3 : Int32) (x4 : Int32) (K91 : Int32 → zM → zO) : Nat → Int32 → Int32 → Int32 → zM → zO
  | 0, _, _, _, _ => none
  | n + 1, x2, x5, x6, M => zit (8 ≤ x6) (K91 x2 M) (zit (x5 = (-1)) (K91 x2 M) (zit (((x2 >>> (x5 &&& 31)) &&& 1) = 0) (zlt (x2 ||| ((1 : Int32) <<< (x5 &&& 31))) (fun v1 => zbI (F_X4_figure x1 x5 M) (fun r1 M2 => zbI (F_X10_holder (zgr x0 0) r1 M2) (fun r2 M3 => F_X4_fewestOfItself_L41 x0 x1 x3 x4 K91 n v1 r2 (x6 + 1) M3)))) (K91 x2 M)))
def F_X4_fewestOfItself_L7 (x0 : Nat) (x1 : Int32) (K97 : Int32 → zM → zO) : Nat → Int32 → Int32 → Int32 → zM → zO
  | 0, _, _, _, _ => none
  | n + 1, x2, x3, x4, M => zit ((M (zgr (zgr x0 0) 0) 0) ≤ x4) (K97 x3 M) (zjo (fun (w1 : Int32) (M1 : zM) => F_X4_fewestOfItself_L41 x0 x1 w1 x4 (fun (y1 : Int32) (M4 : zM) => F_X4_fewestOfItself_L7 x0 x1 K97 n y1 w1 (x4 + 1) M4) zN x2 x4 0 M1) (fun (k1 : Int32 → zM → zO) => zit (((x2 >>> (x4 &&& 31)) &&& 1) = 0) (k1 (x3 + 1) M) (k1 x3 M)))
def F_X4_fewestOfItself (t : Nat) (a1 : Int32) (M : zM) : zO := F_X4_fewestOfItself_L7 t a1 (fun (y2 : Int32) (M5 : zM) => zI ((M5 (zgr (zgr t 0) 0) 0) - y2) M5) zN 0 0 0 M
set_option maxHeartbeats 1000000 in
set_option maxRecDepth 20000 in
theorem ct_X4_fewestOfItself_L41 (l : Launch) (hl : l.stackTraces = false) (G : zG) (x0 : Nat) (hx0 : zsh x0 = 4) (x1 : Int32) (x3 : Int32) (x4 : Int32) (K91 : Int32 → zM → zO) (hK91 : ∀ (x2 : Int32) (M : zM), zEv l G Y_X4_fewestOfItself 2 0 91 [(0, .ref (G.2.1 + x0)), (1, .int x1), (2, .int x2), (3, .int x3), (4, .int x4)] [] M (K91 x2 M)) : ∀ (n : Nat) (x2 : Int32) (x5 : Int32) (x6 : Int32) (M : zM), zEv l G Y_X4_fewestOfItself 2 0 41 [(0, .ref (G.2.1 + x0)), (1, .int x1), (2, .int x2), (3, .int x3), (4, .int x4), (5, .int x5), (6, .int x6)] [] M (F_X4_fewestOfItself_L41 x0 x1 x3 x4 K91 n x2 x5 x6 M) := by
  intro n
  induction n with
  | zero => intro x2 x5 x6 M; exact ev_none
  | succ n ih =>
    intro x2 x5 x6 M
    show zEv l G Y_X4_fewestOfItself 2 0 41 [(0, .ref (G.2.1 + x0)), (1, .int x1), (2, .int x2), (3, .int x3), (4, .int x4), (5, .int x5), (6, .int x6)] [] M (zit (8 ≤ x6) (K91 x2 M) (zit (x5 = (-1)) (K91 x2 M) (zit (((x2 >>> (x5 &&& 31)) &&& 1) = 0) (zlt (x2 ||| ((1 : Int32) <<< (x5 &&& 31))) (fun v1 => zbI (F_X4_figure x1 x5 M) (fun r1 M2 => zbI (F_X10_holder (zgr x0 0) r1 M2) (fun r2 M3 => F_X4_fewestOfItself_L41 x0 x1 x3 x4 K91 n v1 r2 (x6 + 1) M3)))) (K91 x2 M))))
    refine ev_iload dd_X4_fewestOfItself_41 6 rfl ?_
    refine ev_bipush (v := 8) dd_X4_fewestOfItself_43 (by decide) ?_
    refine ev_icmp_ge 91 dd_X4_fewestOfItself_45 (by decide) ?_ ?_
    · refine ev_lv (lv' := [(0, .ref (G.2.1 + x0)), (1, .int x1), (2, .int x2), (3, .int x3), (4, .int x4)]) [0, 1, 2, 3, 4] rfl ?_
      exact hK91 _ _
    · refine ev_iload dd_X4_fewestOfItself_48 5 rfl ?_
      refine ev_iconst (v := (-1)) dd_X4_fewestOfItself_50 (by decide) ?_
      refine ev_icmp_eq 91 dd_X4_fewestOfItself_51 (by decide) ?_ ?_
      · refine ev_lv (lv' := [(0, .ref (G.2.1 + x0)), (1, .int x1), (2, .int x2), (3, .int x3), (4, .int x4)]) [0, 1, 2, 3, 4] rfl ?_
        exact hK91 _ _
      · refine ev_iload_n dd_X4_fewestOfItself_54 2 rfl ?_
        refine ev_iload dd_X4_fewestOfItself_55 5 rfl ?_
        refine ev_ishr dd_X4_fewestOfItself_57 ?_
        refine ev_iconst (v := 1) dd_X4_fewestOfItself_58 (by decide) ?_
        refine ev_iand dd_X4_fewestOfItself_59 ?_
        refine ev_if_ne 91 dd_X4_fewestOfItself_60 (by decide) ?_ ?_
        · refine ev_lv (lv' := [(0, .ref (G.2.1 + x0)), (1, .int x1), (2, .int x2), (3, .int x3), (4, .int x4)]) [0, 1, 2, 3, 4] rfl ?_
          exact hK91 _ _
        · refine ev_iload_n dd_X4_fewestOfItself_63 2 rfl ?_
          refine ev_lv (lv' := [(0, .ref (G.2.1 + x0)), (1, .int x1), (3, .int x3), (4, .int x4), (5, .int x5), (6, .int x6)]) [0, 1, 3, 4, 5, 6] rfl ?_
          refine ev_iconst (v := 1) dd_X4_fewestOfItself_64 (by decide) ?_
          refine ev_iload dd_X4_fewestOfItself_65 4 rfl ?_
          refine ev_ishl dd_X4_fewestOfItself_67 ?_
          refine ev_ior dd_X4_fewestOfItself_68 ?_
          refine ev_topi (fun v1 => ?_)
          refine ev_istore_n (i := 2) (lv' := [(0, .ref (G.2.1 + x0)), (1, .int x1), (2, .int v1), (3, .int x3), (4, .int x4), (5, .int x5), (6, .int x6)]) [1, 2, 0, 3, 4, 5, 6] dd_X4_fewestOfItself_69 rfl (by decide) rfl ?_
          refine ev_aload_n dd_X4_fewestOfItself_70 0 rfl ?_
          refine ev_getR gf_RX4_28 dd_X4_fewestOfItself_71 hx0 (by decide) ?_
          refine ev_iload_n dd_X4_fewestOfItself_74 1 rfl ?_
          refine ev_iload dd_X4_fewestOfItself_75 5 rfl ?_
          refine ev_lv (lv' := [(0, .ref (G.2.1 + x0)), (1, .int x1), (2, .int v1), (3, .int x3), (4, .int x4), (6, .int x6)]) [0, 1, 2, 3, 4, 6] rfl ?_
          refine ev_callSI (As := [.int x1, .int x5]) cl_RX4_47 (ct_X4_figure l hl G x1 x5 M) dd_X4_fewestOfItself_77 (by decide) (Nat.le_of_ble_eq_true rfl) (Nat.le_of_ble_eq_true rfl) rfl rfl (fun r1 M2 => ?_)
          refine ev_callVI (As := [.int r1]) cl_RX4_90 (ct_X10_holder l hl G (zgr x0 0) (zg_4_0 hx0) r1 M2) dd_X4_fewestOfItself_80 (zg_4_0 hx0) (by decide) (Nat.le_of_ble_eq_true rfl) (Nat.le_of_ble_eq_true rfl) rfl rfl (fun r2 M3 => ?_)
          refine ev_istore (i := 5) (lv' := [(0, .ref (G.2.1 + x0)), (1, .int x1), (2, .int v1), (3, .int x3), (4, .int x4), (5, .int r2), (6, .int x6)]) [1, 2, 3, 4, 5, 0, 6] dd_X4_fewestOfItself_83 (by decide) rfl ?_
          refine ev_iinc (j := 6) (v := 1) (lv' := [(0, .ref (G.2.1 + x0)), (1, .int x1), (2, .int v1), (3, .int x3), (4, .int x4), (5, .int r2), (6, .int (x6 + 1))]) [1, 2, 3, 4, 5, 6, 0] dd_X4_fewestOfItself_85 rfl (by decide) (by decide) rfl ?_
          refine ev_goto 41 dd_X4_fewestOfItself_88 (by decide) ?_
          exact ih _ _ _ _
set_option maxHeartbeats 1000000 in
set_option maxRecDepth 20000 in
theorem ct_X4_fewestOfItself_L7 (l : Launch) (hl : l.stackTraces = false) (G : zG) (x0 : Nat) (hx0 : zsh x0 = 4) (x1 : Int32) (K97 : Int32 → zM → zO) (hK97 : ∀ (x3 : Int32) (M : zM), zEv l G Y_X4_fewestOfItself 2 0 97 [(0, .ref (G.2.1 + x0)), (3, .int x3)] [] M (K97 x3 M)) : ∀ (n : Nat) (x2 : Int32) (x3 : Int32) (x4 : Int32) (M : zM), zEv l G Y_X4_fewestOfItself 2 0 7 [(0, .ref (G.2.1 + x0)), (1, .int x1), (2, .int x2), (3, .int x3), (4, .int x4)] [] M (F_X4_fewestOfItself_L7 x0 x1 K97 n x2 x3 x4 M) := by
  intro n
  induction n with
  | zero => intro x2 x3 x4 M; exact ev_none
  | succ n ih =>
    intro x2 x3 x4 M
    show zEv l G Y_X4_fewestOfItself 2 0 7 [(0, .ref (G.2.1 + x0)), (1, .int x1), (2, .int x2), (3, .int x3), (4, .int x4)] [] M (zit ((M (zgr (zgr x0 0) 0) 0) ≤ x4) (K97 x3 M) (zjo (fun (w1 : Int32) (M1 : zM) => F_X4_fewestOfItself_L41 x0 x1 w1 x4 (fun (y1 : Int32) (M4 : zM) => F_X4_fewestOfItself_L7 x0 x1 K97 n y1 w1 (x4 + 1) M4) zN x2 x4 0 M1) (fun (k1 : Int32 → zM → zO) => zit (((x2 >>> (x4 &&& 31)) &&& 1) = 0) (k1 (x3 + 1) M) (k1 x3 M))))
    refine ev_iload dd_X4_fewestOfItself_7 4 rfl ?_
    refine ev_aload_n dd_X4_fewestOfItself_9 0 rfl ?_
    refine ev_getR gf_RX4_28 dd_X4_fewestOfItself_10 hx0 (by decide) ?_
    refine ev_getR gf_RX4_36 dd_X4_fewestOfItself_13 (zg_4_0 hx0) (by decide) ?_
    refine ev_getI gf_RX4_42 dd_X4_fewestOfItself_16 (zg_10_0 (zg_4_0 hx0)) (by decide) ?_
    refine ev_icmp_ge 97 dd_X4_fewestOfItself_19 (by decide) ?_ ?_
    · refine ev_lv (lv' := [(0, .ref (G.2.1 + x0)), (3, .int x3)]) [0, 3] rfl ?_
      exact hK97 _ _
    · refine ev_iload_n dd_X4_fewestOfItself_22 2 rfl ?_
      refine ev_iload dd_X4_fewestOfItself_23 4 rfl ?_
      refine ev_ishr dd_X4_fewestOfItself_25 ?_
      refine ev_iconst (v := 1) dd_X4_fewestOfItself_26 (by decide) ?_
      refine ev_iand dd_X4_fewestOfItself_27 ?_
      refine ev_jo (fun (k1 : Int32 → zM → zO) => ∀ (w1 : Int32) (M1 : zM), zEv l G Y_X4_fewestOfItself 2 0 34 [(0, .ref (G.2.1 + x0)), (1, .int x1), (2, .int x2), (3, .int w1), (4, .int x4)] [] M1 (k1 w1 M1)) ?_ (fun k1 hk1 => ?_)
      · intro w1 M1
        refine ev_iload dd_X4_fewestOfItself_34 4 rfl ?_
        refine ev_istore (i := 5) (lv' := [(0, .ref (G.2.1 + x0)), (1, .int x1), (2, .int x2), (3, .int w1), (4, .int x4), (5, .int x4)]) [1, 2, 3, 4, 5, 0] dd_X4_fewestOfItself_36 (by decide) rfl ?_
        refine ev_iconst (v := 0) dd_X4_fewestOfItself_38 (by decide) ?_
        refine ev_istore (i := 6) (lv' := [(0, .ref (G.2.1 + x0)), (1, .int x1), (2, .int x2), (3, .int w1), (4, .int x4), (5, .int x4), (6, .int 0)]) [1, 2, 3, 4, 5, 6, 0] dd_X4_fewestOfItself_39 (by decide) rfl ?_
        refine ct_X4_fewestOfItself_L41 l hl G x0 hx0 x1 w1 x4 _ (fun y1 M4 => ?_) zN _ _ _ _
        refine ev_iinc (j := 4) (v := 1) (lv' := [(0, .ref (G.2.1 + x0)), (1, .int x1), (2, .int y1), (3, .int w1), (4, .int (x4 + 1))]) [1, 2, 3, 4, 0] dd_X4_fewestOfItself_91 rfl (by decide) (by decide) rfl ?_
        refine ev_goto 7 dd_X4_fewestOfItself_94 (by decide) ?_
        exact ih _ _ _ _
      · refine ev_if_ne 34 dd_X4_fewestOfItself_28 (by decide) ?_ ?_
        · exact hk1 _ _
        · refine ev_iinc (j := 3) (v := 1) (lv' := [(0, .ref (G.2.1 + x0)), (1, .int x1), (2, .int x2), (3, .int (x3 + 1)), (4, .int x4)]) [1, 2, 3, 0, 4] dd_X4_fewestOfItself_31 rfl (by decide) (by decide) rfl ?_
          exact hk1 _ _
set_option maxHeartbeats 1000000 in
set_option maxRecDepth 20000 in
theorem ct_X4_fewestOfItself (l : Launch) (hl : l.stackTraces = false) (G : zG) (t : Nat) (ht : zsh t = 4) (a1 : Int32) (M : zM) : zMt l G Y_X4_fewestOfItself 2 [.ref (G.2.1 + t), .int a1] M (F_X4_fewestOfItself t a1 M) := by
  refine zMt_of (by decide +kernel) (Nat.le_of_ble_eq_true rfl) ?_
  show zEv l G Y_X4_fewestOfItself 2 0 0 [(0, .ref (G.2.1 + t)), (1, .int a1)] [] M (F_X4_fewestOfItself_L7 t a1 (fun (y2 : Int32) (M5 : zM) => zI ((M5 (zgr (zgr t 0) 0) 0) - y2) M5) zN 0 0 0 M)
  refine ev_iconst (v := 0) dd_X4_fewestOfItself_0 (by decide) ?_
  refine ev_istore_n (i := 2) (lv' := [(0, .ref (G.2.1 + t)), (1, .int a1), (2, .int 0)]) [1, 2, 0] dd_X4_fewestOfItself_1 rfl (by decide) rfl ?_
  refine ev_iconst (v := 0) dd_X4_fewestOfItself_2 (by decide) ?_
  refine ev_istore_n (i := 3) (lv' := [(0, .ref (G.2.1 + t)), (1, .int a1), (2, .int 0), (3, .int 0)]) [1, 2, 3, 0] dd_X4_fewestOfItself_3 rfl (by decide) rfl ?_
  refine ev_iconst (v := 0) dd_X4_fewestOfItself_4 (by decide) ?_
  refine ev_istore (i := 4) (lv' := [(0, .ref (G.2.1 + t)), (1, .int a1), (2, .int 0), (3, .int 0), (4, .int 0)]) [1, 2, 3, 4, 0] dd_X4_fewestOfItself_5 (by decide) rfl ?_
  refine ct_X4_fewestOfItself_L7 l hl G t ht a1 _ (fun y2 M5 => ?_) zN _ _ _ _
  refine ev_aload_n dd_X4_fewestOfItself_97 0 rfl ?_
  refine ev_lv (lv' := [(3, .int y2)]) [1] rfl ?_
  refine ev_getR gf_RX4_28 dd_X4_fewestOfItself_98 ht (by decide) ?_
  refine ev_getR gf_RX4_36 dd_X4_fewestOfItself_101 (zg_4_0 ht) (by decide) ?_
  refine ev_getI gf_RX4_42 dd_X4_fewestOfItself_104 (zg_10_0 (zg_4_0 ht)) (by decide) ?_
  refine ev_iload_n dd_X4_fewestOfItself_107 0 rfl ?_
  refine ev_lv (lv' := []) [] rfl ?_
  refine ev_isub dd_X4_fewestOfItself_108 ?_
  exact ev_iret dd_X4_fewestOfItself_109 rfl (Nat.le_of_ble_eq_true rfl) rfl
/-! X4_arrangementNow -/
theorem dd_X4_arrangementNow_0 : decode Y_X4_arrangementNow.2.1 0 = .ok (.iconst 0, 1) := by decide +kernel
theorem dd_X4_arrangementNow_1 : decode Y_X4_arrangementNow.2.1 1 = .ok (.istore_n 1, 1) := by decide +kernel
theorem dd_X4_arrangementNow_2 : decode Y_X4_arrangementNow.2.1 2 = .ok (.iconst 0, 1) := by decide +kernel
theorem dd_X4_arrangementNow_3 : decode Y_X4_arrangementNow.2.1 3 = .ok (.istore_n 2, 1) := by decide +kernel
theorem dd_X4_arrangementNow_4 : decode Y_X4_arrangementNow.2.1 4 = .ok (.iload_n 2, 1) := by decide +kernel
theorem dd_X4_arrangementNow_5 : decode Y_X4_arrangementNow.2.1 5 = .ok (.aload_n 0, 1) := by decide +kernel
theorem dd_X4_arrangementNow_6 : decode Y_X4_arrangementNow.2.1 6 = .ok (.getfield 28, 3) := by decide +kernel
theorem dd_X4_arrangementNow_9 : decode Y_X4_arrangementNow.2.1 9 = .ok (.getfield 36, 3) := by decide +kernel
theorem dd_X4_arrangementNow_12 : decode Y_X4_arrangementNow.2.1 12 = .ok (.getfield 42, 3) := by decide +kernel
theorem dd_X4_arrangementNow_15 : decode Y_X4_arrangementNow.2.1 15 = .ok (.if_icmp .ge 25, 3) := by decide +kernel
theorem dd_X4_arrangementNow_18 : decode Y_X4_arrangementNow.2.1 18 = .ok (.iload_n 1, 1) := by decide +kernel
theorem dd_X4_arrangementNow_19 : decode Y_X4_arrangementNow.2.1 19 = .ok (.aload_n 0, 1) := by decide +kernel
theorem dd_X4_arrangementNow_20 : decode Y_X4_arrangementNow.2.1 20 = .ok (.getfield 28, 3) := by decide +kernel
theorem dd_X4_arrangementNow_23 : decode Y_X4_arrangementNow.2.1 23 = .ok (.getfield 51, 3) := by decide +kernel
theorem dd_X4_arrangementNow_26 : decode Y_X4_arrangementNow.2.1 26 = .ok (.iload_n 2, 1) := by decide +kernel
theorem dd_X4_arrangementNow_27 : decode Y_X4_arrangementNow.2.1 27 = .ok (.iaload, 1) := by decide +kernel
theorem dd_X4_arrangementNow_28 : decode Y_X4_arrangementNow.2.1 28 = .ok (.iconst 3, 1) := by decide +kernel
theorem dd_X4_arrangementNow_29 : decode Y_X4_arrangementNow.2.1 29 = .ok (.iload_n 2, 1) := by decide +kernel
theorem dd_X4_arrangementNow_30 : decode Y_X4_arrangementNow.2.1 30 = .ok (.imul, 1) := by decide +kernel
theorem dd_X4_arrangementNow_31 : decode Y_X4_arrangementNow.2.1 31 = .ok (.ishl, 1) := by decide +kernel
theorem dd_X4_arrangementNow_32 : decode Y_X4_arrangementNow.2.1 32 = .ok (.ior, 1) := by decide +kernel
theorem dd_X4_arrangementNow_33 : decode Y_X4_arrangementNow.2.1 33 = .ok (.istore_n 1, 1) := by decide +kernel
theorem dd_X4_arrangementNow_34 : decode Y_X4_arrangementNow.2.1 34 = .ok (.iinc 2 1, 3) := by decide +kernel
theorem dd_X4_arrangementNow_37 : decode Y_X4_arrangementNow.2.1 37 = .ok (.goto (-33), 3) := by decide +kernel
theorem dd_X4_arrangementNow_40 : decode Y_X4_arrangementNow.2.1 40 = .ok (.iload_n 1, 1) := by decide +kernel
theorem dd_X4_arrangementNow_41 : decode Y_X4_arrangementNow.2.1 41 = .ok (.ireturn, 1) := by decide +kernel
def F_X4_arrangementNow_L4 (x0 : Nat) (K40 : Int32 → zM → zO) : Nat → Int32 → Int32 → zM → zO
  | 0, _, _, _ => none
  | n + 1, x1, x2, M => zit ((M (zgr (zgr x0 0) 0) 0) ≤ x2) (K40 x1 M) (zck (zin x2 8) (zlt (x1 ||| ((M (zgr (zgr x0 0) 1) (zix x2)) <<< ((3 * x2) &&& 31))) (fun v1 => F_X4_arrangementNow_L4 x0 K40 n v1 (x2 + 1) M)))
def F_X4_arrangementNow (t : Nat) (M : zM) : zO := F_X4_arrangementNow_L4 t (fun (y1 : Int32) (M1 : zM) => zI y1 M1) zN 0 0 M
set_option maxHeartbeats 1000000 in
set_option maxRecDepth 20000 in
theorem ct_X4_arrangementNow_L4 (l : Launch) (hl : l.stackTraces = false) (G : zG) (x0 : Nat) (hx0 : zsh x0 = 4) (K40 : Int32 → zM → zO) (hK40 : ∀ (x1 : Int32) (M : zM), zEv l G Y_X4_arrangementNow 1 0 40 [(1, .int x1)] [] M (K40 x1 M)) : ∀ (n : Nat) (x1 : Int32) (x2 : Int32) (M : zM), zEv l G Y_X4_arrangementNow 1 0 4 [(0, .ref (G.2.1 + x0)), (1, .int x1), (2, .int x2)] [] M (F_X4_arrangementNow_L4 x0 K40 n x1 x2 M) := by
  intro n
  induction n with
  | zero => intro x1 x2 M; exact ev_none
  | succ n ih =>
    intro x1 x2 M
    show zEv l G Y_X4_arrangementNow 1 0 4 [(0, .ref (G.2.1 + x0)), (1, .int x1), (2, .int x2)] [] M (zit ((M (zgr (zgr x0 0) 0) 0) ≤ x2) (K40 x1 M) (zck (zin x2 8) (zlt (x1 ||| ((M (zgr (zgr x0 0) 1) (zix x2)) <<< ((3 * x2) &&& 31))) (fun v1 => F_X4_arrangementNow_L4 x0 K40 n v1 (x2 + 1) M))))
    refine ev_iload_n dd_X4_arrangementNow_4 2 rfl ?_
    refine ev_aload_n dd_X4_arrangementNow_5 0 rfl ?_
    refine ev_getR gf_RX4_28 dd_X4_arrangementNow_6 hx0 (by decide) ?_
    refine ev_getR gf_RX4_36 dd_X4_arrangementNow_9 (zg_4_0 hx0) (by decide) ?_
    refine ev_getI gf_RX4_42 dd_X4_arrangementNow_12 (zg_10_0 (zg_4_0 hx0)) (by decide) ?_
    refine ev_icmp_ge 40 dd_X4_arrangementNow_15 (by decide) ?_ ?_
    · refine ev_lv (lv' := [(1, .int x1)]) [1] rfl ?_
      exact hK40 _ _
    · refine ev_iload_n dd_X4_arrangementNow_18 1 rfl ?_
      refine ev_lv (lv' := [(0, .ref (G.2.1 + x0)), (2, .int x2)]) [0, 2] rfl ?_
      refine ev_aload_n dd_X4_arrangementNow_19 0 rfl ?_
      refine ev_getR gf_RX4_28 dd_X4_arrangementNow_20 hx0 (by decide) ?_
      refine ev_getR gf_RX4_51 dd_X4_arrangementNow_23 (zg_4_0 hx0) (by decide) ?_
      refine ev_iload_n dd_X4_arrangementNow_26 1 rfl ?_
      refine ev_iald dd_X4_arrangementNow_27 ((zg_10_1 (zg_4_0 hx0)).1) ((zg_10_1 (zg_4_0 hx0)).2) ?_
      refine ev_iconst (v := 3) dd_X4_arrangementNow_28 (by decide) ?_
      refine ev_iload_n dd_X4_arrangementNow_29 1 rfl ?_
      refine ev_imul dd_X4_arrangementNow_30 ?_
      refine ev_ishl dd_X4_arrangementNow_31 ?_
      refine ev_ior dd_X4_arrangementNow_32 ?_
      refine ev_topi (fun v1 => ?_)
      refine ev_istore_n (i := 1) (lv' := [(0, .ref (G.2.1 + x0)), (1, .int v1), (2, .int x2)]) [1, 0, 2] dd_X4_arrangementNow_33 rfl (by decide) rfl ?_
      refine ev_iinc (j := 2) (v := 1) (lv' := [(0, .ref (G.2.1 + x0)), (1, .int v1), (2, .int (x2 + 1))]) [1, 2, 0] dd_X4_arrangementNow_34 rfl (by decide) (by decide) rfl ?_
      refine ev_goto 4 dd_X4_arrangementNow_37 (by decide) ?_
      exact ih _ _ _
set_option maxHeartbeats 1000000 in
set_option maxRecDepth 20000 in
theorem ct_X4_arrangementNow (l : Launch) (hl : l.stackTraces = false) (G : zG) (t : Nat) (ht : zsh t = 4) (M : zM) : zMt l G Y_X4_arrangementNow 1 [.ref (G.2.1 + t)] M (F_X4_arrangementNow t M) := by
  refine zMt_of (by decide +kernel) (Nat.le_of_ble_eq_true rfl) ?_
  show zEv l G Y_X4_arrangementNow 1 0 0 [(0, .ref (G.2.1 + t))] [] M (F_X4_arrangementNow_L4 t (fun (y1 : Int32) (M1 : zM) => zI y1 M1) zN 0 0 M)
  refine ev_iconst (v := 0) dd_X4_arrangementNow_0 (by decide) ?_
  refine ev_istore_n (i := 1) (lv' := [(0, .ref (G.2.1 + t)), (1, .int 0)]) [1, 0] dd_X4_arrangementNow_1 rfl (by decide) rfl ?_
  refine ev_iconst (v := 0) dd_X4_arrangementNow_2 (by decide) ?_
  refine ev_istore_n (i := 2) (lv' := [(0, .ref (G.2.1 + t)), (1, .int 0), (2, .int 0)]) [1, 2, 0] dd_X4_arrangementNow_3 rfl (by decide) rfl ?_
  refine ct_X4_arrangementNow_L4 l hl G t ht _ (fun y1 M1 => ?_) zN _ _ _
  refine ev_iload_n dd_X4_arrangementNow_40 0 rfl ?_
  refine ev_lv (lv' := []) [] rfl ?_
  exact ev_iret dd_X4_arrangementNow_41 rfl (Nat.le_of_ble_eq_true rfl) rfl
/-! X4_reach -/
theorem dd_X4_reach_0 : decode Y_X4_reach.2.1 0 = .ok (.aload_n 0, 1) := by decide +kernel
theorem dd_X4_reach_1 : decode Y_X4_reach.2.1 1 = .ok (.iload_n 1, 1) := by decide +kernel
theorem dd_X4_reach_2 : decode Y_X4_reach.2.1 2 = .ok (.invokevirtual 83, 3) := by decide +kernel
theorem dd_X4_reach_5 : decode Y_X4_reach.2.1 5 = .ok (.istore 4, 2) := by decide +kernel
theorem dd_X4_reach_7 : decode Y_X4_reach.2.1 7 = .ok (.aload_n 0, 1) := by decide +kernel
theorem dd_X4_reach_8 : decode Y_X4_reach.2.1 8 = .ok (.getfield 19, 3) := by decide +kernel
theorem dd_X4_reach_11 : decode Y_X4_reach.2.1 11 = .ok (.iload 4, 2) := by decide +kernel
theorem dd_X4_reach_13 : decode Y_X4_reach.2.1 13 = .ok (.iaload, 1) := by decide +kernel
theorem dd_X4_reach_14 : decode Y_X4_reach.2.1 14 = .ok (.iconst (-1), 1) := by decide +kernel
theorem dd_X4_reach_15 : decode Y_X4_reach.2.1 15 = .ok (.if_icmp .ne 49, 3) := by decide +kernel
theorem dd_X4_reach_18 : decode Y_X4_reach.2.1 18 = .ok (.aload_n 0, 1) := by decide +kernel
theorem dd_X4_reach_19 : decode Y_X4_reach.2.1 19 = .ok (.getfield 15, 3) := by decide +kernel
theorem dd_X4_reach_22 : decode Y_X4_reach.2.1 22 = .ok (.sipush 720, 3) := by decide +kernel
theorem dd_X4_reach_25 : decode Y_X4_reach.2.1 25 = .ok (.if_icmp .ge 39, 3) := by decide +kernel
theorem dd_X4_reach_28 : decode Y_X4_reach.2.1 28 = .ok (.aload_n 0, 1) := by decide +kernel
theorem dd_X4_reach_29 : decode Y_X4_reach.2.1 29 = .ok (.getfield 19, 3) := by decide +kernel
theorem dd_X4_reach_32 : decode Y_X4_reach.2.1 32 = .ok (.iload 4, 2) := by decide +kernel
theorem dd_X4_reach_34 : decode Y_X4_reach.2.1 34 = .ok (.iload_n 2, 1) := by decide +kernel
theorem dd_X4_reach_35 : decode Y_X4_reach.2.1 35 = .ok (.iastore, 1) := by decide +kernel
theorem dd_X4_reach_36 : decode Y_X4_reach.2.1 36 = .ok (.aload_n 0, 1) := by decide +kernel
theorem dd_X4_reach_37 : decode Y_X4_reach.2.1 37 = .ok (.getfield 22, 3) := by decide +kernel
theorem dd_X4_reach_40 : decode Y_X4_reach.2.1 40 = .ok (.iload 4, 2) := by decide +kernel
theorem dd_X4_reach_42 : decode Y_X4_reach.2.1 42 = .ok (.iload_n 3, 1) := by decide +kernel
theorem dd_X4_reach_43 : decode Y_X4_reach.2.1 43 = .ok (.iastore, 1) := by decide +kernel
theorem dd_X4_reach_44 : decode Y_X4_reach.2.1 44 = .ok (.aload_n 0, 1) := by decide +kernel
theorem dd_X4_reach_45 : decode Y_X4_reach.2.1 45 = .ok (.getfield 9, 3) := by decide +kernel
theorem dd_X4_reach_48 : decode Y_X4_reach.2.1 48 = .ok (.aload_n 0, 1) := by decide +kernel
theorem dd_X4_reach_49 : decode Y_X4_reach.2.1 49 = .ok (.getfield 15, 3) := by decide +kernel
theorem dd_X4_reach_52 : decode Y_X4_reach.2.1 52 = .ok (.iload_n 1, 1) := by decide +kernel
theorem dd_X4_reach_53 : decode Y_X4_reach.2.1 53 = .ok (.iastore, 1) := by decide +kernel
theorem dd_X4_reach_54 : decode Y_X4_reach.2.1 54 = .ok (.aload_n 0, 1) := by decide +kernel
theorem dd_X4_reach_55 : decode Y_X4_reach.2.1 55 = .ok (.dup, 1) := by decide +kernel
theorem dd_X4_reach_56 : decode Y_X4_reach.2.1 56 = .ok (.getfield 15, 3) := by decide +kernel
theorem dd_X4_reach_59 : decode Y_X4_reach.2.1 59 = .ok (.iconst 1, 1) := by decide +kernel
theorem dd_X4_reach_60 : decode Y_X4_reach.2.1 60 = .ok (.iadd, 1) := by decide +kernel
theorem dd_X4_reach_61 : decode Y_X4_reach.2.1 61 = .ok (.putfield 15, 3) := by decide +kernel
theorem dd_X4_reach_64 : decode Y_X4_reach.2.1 64 = .ok (.return_, 1) := by decide +kernel
def F_X4_reach (t : Nat) (a1 : Int32) (a2 : Int32) (a3 : Int32) (M : zM) : zO := zbI (F_X4_number t a1 M) (fun r1 M1 => zck (zin r1 720) (zjo (fun  (M6 : zM) => zV M6) (fun (k1 : zM → zO) => zit ((M1 (zgr t 4) (zix r1)) = (-1)) (zit (720 ≤ (M1 t 3)) (k1 M1) (zck (zin r1 720) (zst (zup M1 (zgr t 4) (zix r1) a2) (fun M2 => zck (zin r1 720) (zst (zup M2 (zgr t 5) (zix r1) a3) (fun M3 => zck (zin (M3 t 3) 720) (zst (zup M3 (zgr t 2) (zix (M3 t 3)) a1) (fun M4 => zst (zup M4 t 3 ((M4 t 3) + 1)) (fun M5 => k1 M5))))))))) (k1 M1))))
set_option maxHeartbeats 1000000 in
set_option maxRecDepth 20000 in
theorem ct_X4_reach (l : Launch) (hl : l.stackTraces = false) (G : zG) (t : Nat) (ht : zsh t = 4) (a1 : Int32) (a2 : Int32) (a3 : Int32) (M : zM) : zMt l G Y_X4_reach 3 [.ref (G.2.1 + t), .int a1, .int a2, .int a3] M (F_X4_reach t a1 a2 a3 M) := by
  refine zMt_of (by decide +kernel) (Nat.le_of_ble_eq_true rfl) ?_
  show zEv l G Y_X4_reach 3 0 0 [(0, .ref (G.2.1 + t)), (1, .int a1), (2, .int a2), (3, .int a3)] [] M (zbI (F_X4_number t a1 M) (fun r1 M1 => zck (zin r1 720) (zjo (fun  (M6 : zM) => zV M6) (fun (k1 : zM → zO) => zit ((M1 (zgr t 4) (zix r1)) = (-1)) (zit (720 ≤ (M1 t 3)) (k1 M1) (zck (zin r1 720) (zst (zup M1 (zgr t 4) (zix r1) a2) (fun M2 => zck (zin r1 720) (zst (zup M2 (zgr t 5) (zix r1) a3) (fun M3 => zck (zin (M3 t 3) 720) (zst (zup M3 (zgr t 2) (zix (M3 t 3)) a1) (fun M4 => zst (zup M4 t 3 ((M4 t 3) + 1)) (fun M5 => k1 M5))))))))) (k1 M1)))))
  refine ev_aload_n dd_X4_reach_0 0 rfl ?_
  refine ev_iload_n dd_X4_reach_1 1 rfl ?_
  refine ev_callVI (As := [.int a1]) cl_RX4_83 (ct_X4_number l hl G t ht a1 M) dd_X4_reach_2 ht (by decide) (Nat.le_of_ble_eq_true rfl) (Nat.le_of_ble_eq_true rfl) rfl rfl (fun r1 M1 => ?_)
  refine ev_istore (i := 4) (lv' := [(0, .ref (G.2.1 + t)), (1, .int a1), (2, .int a2), (3, .int a3), (4, .int r1)]) [1, 2, 3, 4, 0] dd_X4_reach_5 (by decide) rfl ?_
  refine ev_aload_n dd_X4_reach_7 0 rfl ?_
  refine ev_getR gf_RX4_19 dd_X4_reach_8 ht (by decide) ?_
  refine ev_iload dd_X4_reach_11 4 rfl ?_
  refine ev_iald dd_X4_reach_13 ((zg_4_4 ht).1) ((zg_4_4 ht).2) ?_
  refine ev_iconst (v := (-1)) dd_X4_reach_14 (by decide) ?_
  refine ev_jo (fun (k1 : zM → zO) => ∀  (M6 : zM), zEv l G Y_X4_reach 3 0 64 [] [] M6 (k1 M6)) ?_ (fun k1 hk1 => ?_)
  · intro M6
    exact ev_vret dd_X4_reach_64 rfl (Nat.le_of_ble_eq_true rfl) rfl
  · refine ev_icmp_ne 64 dd_X4_reach_15 (by decide) ?_ ?_
    · refine ev_lv (lv' := []) [] rfl ?_
      exact hk1 _
    · refine ev_aload_n dd_X4_reach_18 0 rfl ?_
      refine ev_getI gf_RX4_15 dd_X4_reach_19 ht (by decide) ?_
      refine ev_sipush (v := 720) dd_X4_reach_22 (by decide) ?_
      refine ev_icmp_ge 64 dd_X4_reach_25 (by decide) ?_ ?_
      · refine ev_lv (lv' := []) [] rfl ?_
        exact hk1 _
      · refine ev_aload_n dd_X4_reach_28 0 rfl ?_
        refine ev_getR gf_RX4_19 dd_X4_reach_29 ht (by decide) ?_
        refine ev_iload dd_X4_reach_32 4 rfl ?_
        refine ev_iload_n dd_X4_reach_34 2 rfl ?_
        refine ev_lv (lv' := [(0, .ref (G.2.1 + t)), (1, .int a1), (3, .int a3), (4, .int r1)]) [0, 1, 3, 4] rfl ?_
        refine ev_iast dd_X4_reach_35 ((zg_4_4 ht).1) ((zg_4_4 ht).2) ?_
        refine ev_st (fun M2 => ?_)
        refine ev_aload_n dd_X4_reach_36 0 rfl ?_
        refine ev_getR gf_RX4_22 dd_X4_reach_37 ht (by decide) ?_
        refine ev_iload dd_X4_reach_40 3 rfl ?_
        refine ev_lv (lv' := [(0, .ref (G.2.1 + t)), (1, .int a1), (3, .int a3)]) [0, 1, 2] rfl ?_
        refine ev_iload_n dd_X4_reach_42 2 rfl ?_
        refine ev_lv (lv' := [(0, .ref (G.2.1 + t)), (1, .int a1)]) [0, 1] rfl ?_
        refine ev_iast dd_X4_reach_43 ((zg_4_5 ht).1) ((zg_4_5 ht).2) ?_
        refine ev_st (fun M3 => ?_)
        refine ev_aload_n dd_X4_reach_44 0 rfl ?_
        refine ev_getR gf_RX4_9 dd_X4_reach_45 ht (by decide) ?_
        refine ev_aload_n dd_X4_reach_48 0 rfl ?_
        refine ev_getI gf_RX4_15 dd_X4_reach_49 ht (by decide) ?_
        refine ev_iload_n dd_X4_reach_52 1 rfl ?_
        refine ev_lv (lv' := [(0, .ref (G.2.1 + t))]) [0] rfl ?_
        refine ev_iast dd_X4_reach_53 ((zg_4_2 ht).1) ((zg_4_2 ht).2) ?_
        refine ev_st (fun M4 => ?_)
        refine ev_aload_n dd_X4_reach_54 0 rfl ?_
        refine ev_lv (lv' := []) [] rfl ?_
        refine ev_dup dd_X4_reach_55 rfl ?_
        refine ev_getI gf_RX4_15 dd_X4_reach_56 ht (by decide) ?_
        refine ev_iconst (v := 1) dd_X4_reach_59 (by decide) ?_
        refine ev_iadd dd_X4_reach_60 ?_
        refine ev_putI gw_RX4_15 dd_X4_reach_61 ht (by decide) ?_
        refine ev_st (fun M5 => ?_)
        exact hk1 _
/-! X4_spread -/
theorem dd_X4_spread_0 : decode Y_X4_spread.2.1 0 = .ok (.aload_n 0, 1) := by decide +kernel
theorem dd_X4_spread_1 : decode Y_X4_spread.2.1 1 = .ok (.iload_n 1, 1) := by decide +kernel
theorem dd_X4_spread_2 : decode Y_X4_spread.2.1 2 = .ok (.invokevirtual 83, 3) := by decide +kernel
theorem dd_X4_spread_5 : decode Y_X4_spread.2.1 5 = .ok (.istore_n 2, 1) := by decide +kernel
theorem dd_X4_spread_6 : decode Y_X4_spread.2.1 6 = .ok (.iconst 0, 1) := by decide +kernel
theorem dd_X4_spread_7 : decode Y_X4_spread.2.1 7 = .ok (.istore_n 3, 1) := by decide +kernel
theorem dd_X4_spread_8 : decode Y_X4_spread.2.1 8 = .ok (.iload_n 3, 1) := by decide +kernel
theorem dd_X4_spread_9 : decode Y_X4_spread.2.1 9 = .ok (.aload_n 0, 1) := by decide +kernel
theorem dd_X4_spread_10 : decode Y_X4_spread.2.1 10 = .ok (.getfield 28, 3) := by decide +kernel
theorem dd_X4_spread_13 : decode Y_X4_spread.2.1 13 = .ok (.getfield 36, 3) := by decide +kernel
theorem dd_X4_spread_16 : decode Y_X4_spread.2.1 16 = .ok (.getfield 42, 3) := by decide +kernel
theorem dd_X4_spread_19 : decode Y_X4_spread.2.1 19 = .ok (.if_icmp .ge 131, 3) := by decide +kernel
theorem dd_X4_spread_22 : decode Y_X4_spread.2.1 22 = .ok (.iload_n 1, 1) := by decide +kernel
theorem dd_X4_spread_23 : decode Y_X4_spread.2.1 23 = .ok (.iload_n 3, 1) := by decide +kernel
theorem dd_X4_spread_24 : decode Y_X4_spread.2.1 24 = .ok (.invokestatic 47, 3) := by decide +kernel
theorem dd_X4_spread_27 : decode Y_X4_spread.2.1 27 = .ok (.istore 4, 2) := by decide +kernel
theorem dd_X4_spread_29 : decode Y_X4_spread.2.1 29 = .ok (.iload_n 3, 1) := by decide +kernel
theorem dd_X4_spread_30 : decode Y_X4_spread.2.1 30 = .ok (.iconst 1, 1) := by decide +kernel
theorem dd_X4_spread_31 : decode Y_X4_spread.2.1 31 = .ok (.iadd, 1) := by decide +kernel
theorem dd_X4_spread_32 : decode Y_X4_spread.2.1 32 = .ok (.istore 5, 2) := by decide +kernel
theorem dd_X4_spread_34 : decode Y_X4_spread.2.1 34 = .ok (.iload 5, 2) := by decide +kernel
theorem dd_X4_spread_36 : decode Y_X4_spread.2.1 36 = .ok (.aload_n 0, 1) := by decide +kernel
theorem dd_X4_spread_37 : decode Y_X4_spread.2.1 37 = .ok (.getfield 28, 3) := by decide +kernel
theorem dd_X4_spread_40 : decode Y_X4_spread.2.1 40 = .ok (.getfield 36, 3) := by decide +kernel
theorem dd_X4_spread_43 : decode Y_X4_spread.2.1 43 = .ok (.getfield 42, 3) := by decide +kernel
theorem dd_X4_spread_46 : decode Y_X4_spread.2.1 46 = .ok (.if_icmp .ge 98, 3) := by decide +kernel
theorem dd_X4_spread_49 : decode Y_X4_spread.2.1 49 = .ok (.iload_n 1, 1) := by decide +kernel
theorem dd_X4_spread_50 : decode Y_X4_spread.2.1 50 = .ok (.iload 5, 2) := by decide +kernel
theorem dd_X4_spread_52 : decode Y_X4_spread.2.1 52 = .ok (.invokestatic 47, 3) := by decide +kernel
theorem dd_X4_spread_55 : decode Y_X4_spread.2.1 55 = .ok (.istore 6, 2) := by decide +kernel
theorem dd_X4_spread_57 : decode Y_X4_spread.2.1 57 = .ok (.aload_n 0, 1) := by decide +kernel
theorem dd_X4_spread_58 : decode Y_X4_spread.2.1 58 = .ok (.getfield 32, 3) := by decide +kernel
theorem dd_X4_spread_61 : decode Y_X4_spread.2.1 61 = .ok (.iload_n 3, 1) := by decide +kernel
theorem dd_X4_spread_62 : decode Y_X4_spread.2.1 62 = .ok (.iload 5, 2) := by decide +kernel
theorem dd_X4_spread_64 : decode Y_X4_spread.2.1 64 = .ok (.iload 4, 2) := by decide +kernel
theorem dd_X4_spread_66 : decode Y_X4_spread.2.1 66 = .ok (.iload 6, 2) := by decide +kernel
theorem dd_X4_spread_68 : decode Y_X4_spread.2.1 68 = .ok (.invokevirtual 86, 3) := by decide +kernel
theorem dd_X4_spread_71 : decode Y_X4_spread.2.1 71 = .ok (.ifCond .eq 67, 3) := by decide +kernel
theorem dd_X4_spread_74 : decode Y_X4_spread.2.1 74 = .ok (.iload 4, 2) := by decide +kernel
theorem dd_X4_spread_76 : decode Y_X4_spread.2.1 76 = .ok (.iload 6, 2) := by decide +kernel
theorem dd_X4_spread_78 : decode Y_X4_spread.2.1 78 = .ok (.ixor, 1) := by decide +kernel
theorem dd_X4_spread_79 : decode Y_X4_spread.2.1 79 = .ok (.istore 7, 2) := by decide +kernel
theorem dd_X4_spread_81 : decode Y_X4_spread.2.1 81 = .ok (.aload_n 0, 1) := by decide +kernel
theorem dd_X4_spread_82 : decode Y_X4_spread.2.1 82 = .ok (.getfield 19, 3) := by decide +kernel
theorem dd_X4_spread_85 : decode Y_X4_spread.2.1 85 = .ok (.iload_n 2, 1) := by decide +kernel
theorem dd_X4_spread_86 : decode Y_X4_spread.2.1 86 = .ok (.iaload, 1) := by decide +kernel
theorem dd_X4_spread_87 : decode Y_X4_spread.2.1 87 = .ok (.ifCond .ne 13, 3) := by decide +kernel
theorem dd_X4_spread_90 : decode Y_X4_spread.2.1 90 = .ok (.bipush 10, 2) := by decide +kernel
theorem dd_X4_spread_92 : decode Y_X4_spread.2.1 92 = .ok (.iload_n 3, 1) := by decide +kernel
theorem dd_X4_spread_93 : decode Y_X4_spread.2.1 93 = .ok (.imul, 1) := by decide +kernel
theorem dd_X4_spread_94 : decode Y_X4_spread.2.1 94 = .ok (.iload 5, 2) := by decide +kernel
theorem dd_X4_spread_96 : decode Y_X4_spread.2.1 96 = .ok (.iadd, 1) := by decide +kernel
theorem dd_X4_spread_97 : decode Y_X4_spread.2.1 97 = .ok (.goto 9, 3) := by decide +kernel
theorem dd_X4_spread_100 : decode Y_X4_spread.2.1 100 = .ok (.aload_n 0, 1) := by decide +kernel
theorem dd_X4_spread_101 : decode Y_X4_spread.2.1 101 = .ok (.getfield 22, 3) := by decide +kernel
theorem dd_X4_spread_104 : decode Y_X4_spread.2.1 104 = .ok (.iload_n 2, 1) := by decide +kernel
theorem dd_X4_spread_105 : decode Y_X4_spread.2.1 105 = .ok (.iaload, 1) := by decide +kernel
theorem dd_X4_spread_106 : decode Y_X4_spread.2.1 106 = .ok (.istore 8, 2) := by decide +kernel
theorem dd_X4_spread_108 : decode Y_X4_spread.2.1 108 = .ok (.aload_n 0, 1) := by decide +kernel
theorem dd_X4_spread_109 : decode Y_X4_spread.2.1 109 = .ok (.iload_n 1, 1) := by decide +kernel
theorem dd_X4_spread_110 : decode Y_X4_spread.2.1 110 = .ok (.iload 7, 2) := by decide +kernel
theorem dd_X4_spread_112 : decode Y_X4_spread.2.1 112 = .ok (.iconst 3, 1) := by decide +kernel
theorem dd_X4_spread_113 : decode Y_X4_spread.2.1 113 = .ok (.iload_n 3, 1) := by decide +kernel
theorem dd_X4_spread_114 : decode Y_X4_spread.2.1 114 = .ok (.imul, 1) := by decide +kernel
theorem dd_X4_spread_115 : decode Y_X4_spread.2.1 115 = .ok (.ishl, 1) := by decide +kernel
theorem dd_X4_spread_116 : decode Y_X4_spread.2.1 116 = .ok (.ixor, 1) := by decide +kernel
theorem dd_X4_spread_117 : decode Y_X4_spread.2.1 117 = .ok (.iload 7, 2) := by decide +kernel
theorem dd_X4_spread_119 : decode Y_X4_spread.2.1 119 = .ok (.iconst 3, 1) := by decide +kernel
theorem dd_X4_spread_120 : decode Y_X4_spread.2.1 120 = .ok (.iload 5, 2) := by decide +kernel
theorem dd_X4_spread_122 : decode Y_X4_spread.2.1 122 = .ok (.imul, 1) := by decide +kernel
theorem dd_X4_spread_123 : decode Y_X4_spread.2.1 123 = .ok (.ishl, 1) := by decide +kernel
theorem dd_X4_spread_124 : decode Y_X4_spread.2.1 124 = .ok (.ixor, 1) := by decide +kernel
theorem dd_X4_spread_125 : decode Y_X4_spread.2.1 125 = .ok (.aload_n 0, 1) := by decide +kernel
theorem dd_X4_spread_126 : decode Y_X4_spread.2.1 126 = .ok (.getfield 19, 3) := by decide +kernel
theorem dd_X4_spread_129 : decode Y_X4_spread.2.1 129 = .ok (.iload_n 2, 1) := by decide +kernel
theorem dd_X4_spread_130 : decode Y_X4_spread.2.1 130 = .ok (.iaload, 1) := by decide +kernel
theorem dd_X4_spread_131 : decode Y_X4_spread.2.1 131 = .ok (.iconst 1, 1) := by decide +kernel
theorem dd_X4_spread_132 : decode Y_X4_spread.2.1 132 = .ok (.iadd, 1) := by decide +kernel
theorem dd_X4_spread_133 : decode Y_X4_spread.2.1 133 = .ok (.iload 8, 2) := by decide +kernel
theorem dd_X4_spread_135 : decode Y_X4_spread.2.1 135 = .ok (.invokevirtual 76, 3) := by decide +kernel
theorem dd_X4_spread_138 : decode Y_X4_spread.2.1 138 = .ok (.iinc 5 1, 3) := by decide +kernel
theorem dd_X4_spread_141 : decode Y_X4_spread.2.1 141 = .ok (.goto (-107), 3) := by decide +kernel
theorem dd_X4_spread_144 : decode Y_X4_spread.2.1 144 = .ok (.iinc 3 1, 3) := by decide +kernel
theorem dd_X4_spread_147 : decode Y_X4_spread.2.1 147 = .ok (.goto (-139), 3) := by decide +kernel
theorem dd_X4_spread_150 : decode Y_X4_spread.2.1 150 = .ok (.return_, 1) := by decide +kernel
def F_X4_spread_L34 (x0 : Nat) (x1 : Int32) (x2 : Int32) (x3 : Int32) (x4 : Int32) (K144 : zM → zO) : Nat → Int32 → zM → zO
  | 0, _, _ => none
  | n + 1, x5, M => zit ((M (zgr (zgr x0 0) 0) 0) ≤ x5) (K144 M) (zbI (F_X4_figure x1 x5 M) (fun r3 M3 => zbI (F_X2_allow (zgr x0 1) x3 x5 x4 r3 M3) (fun r4 M4 => zjo (fun  (M7 : zM) => F_X4_spread_L34 x0 x1 x2 x3 x4 K144 n (x5 + 1) M7) (fun (k1 : zM → zO) => zit (r4 = 0) (k1 M4) (zlt (x4 ^^^ r3) (fun v2 => zck (zin x2 720) (zjo (fun (w1 : Int32) (M5 : zM) => zck (zin x2 720) (zbV (F_X4_reach x0 ((x1 ^^^ (v2 <<< ((3 * x3) &&& 31))) ^^^ (v2 <<< ((3 * x5) &&& 31))) ((M5 (zgr x0 4) (zix x2)) + 1) w1 M5) (fun M6 => k1 M6))) (fun (k2 : Int32 → zM → zO) => zit ((M4 (zgr x0 4) (zix x2)) = 0) (k2 ((10 * x3) + x5) M4) (zck (zin x2 720) (k2 (M4 (zgr x0 5) (zix x2)) M4))))))))))
def F_X4_spread_L8 (x0 : Nat) (x1 : Int32) (x2 : Int32) (K150 : zM → zO) : Nat → Int32 → zM → zO
  | 0, _, _ => none
  | n + 1, x3, M => zit ((M (zgr (zgr x0 0) 0) 0) ≤ x3) (K150 M) (zbI (F_X4_figure x1 x3 M) (fun r2 M2 => zlt (x3 + 1) (fun v1 => F_X4_spread_L34 x0 x1 x2 x3 r2 (fun  (M8 : zM) => F_X4_spread_L8 x0 x1 x2 K150 n (x3 + 1) M8) zN v1 M2)))
def F_X4_spread (t : Nat) (a1 : Int32) (M : zM) : zO := zbI (F_X4_number t a1 M) (fun r1 M1 => F_X4_spread_L8 t a1 r1 (fun  (M9 : zM) => zV M9) zN 0 M1)
set_option maxHeartbeats 1000000 in
set_option maxRecDepth 20000 in
theorem ct_X4_spread_L34 (l : Launch) (hl : l.stackTraces = false) (G : zG) (x0 : Nat) (hx0 : zsh x0 = 4) (x1 : Int32) (x2 : Int32) (x3 : Int32) (x4 : Int32) (K144 : zM → zO) (hK144 : ∀  (M : zM), zEv l G Y_X4_spread 12 0 144 [(0, .ref (G.2.1 + x0)), (1, .int x1), (2, .int x2), (3, .int x3)] [] M (K144 M)) : ∀ (n : Nat) (x5 : Int32) (M : zM), zEv l G Y_X4_spread 12 0 34 [(0, .ref (G.2.1 + x0)), (1, .int x1), (2, .int x2), (3, .int x3), (4, .int x4), (5, .int x5)] [] M (F_X4_spread_L34 x0 x1 x2 x3 x4 K144 n x5 M) := by
  intro n
  induction n with
  | zero => intro x5 M; exact ev_none
  | succ n ih =>
    intro x5 M
    show zEv l G Y_X4_spread 12 0 34 [(0, .ref (G.2.1 + x0)), (1, .int x1), (2, .int x2), (3, .int x3), (4, .int x4), (5, .int x5)] [] M (zit ((M (zgr (zgr x0 0) 0) 0) ≤ x5) (K144 M) (zbI (F_X4_figure x1 x5 M) (fun r3 M3 => zbI (F_X2_allow (zgr x0 1) x3 x5 x4 r3 M3) (fun r4 M4 => zjo (fun  (M7 : zM) => F_X4_spread_L34 x0 x1 x2 x3 x4 K144 n (x5 + 1) M7) (fun (k1 : zM → zO) => zit (r4 = 0) (k1 M4) (zlt (x4 ^^^ r3) (fun v2 => zck (zin x2 720) (zjo (fun (w1 : Int32) (M5 : zM) => zck (zin x2 720) (zbV (F_X4_reach x0 ((x1 ^^^ (v2 <<< ((3 * x3) &&& 31))) ^^^ (v2 <<< ((3 * x5) &&& 31))) ((M5 (zgr x0 4) (zix x2)) + 1) w1 M5) (fun M6 => k1 M6))) (fun (k2 : Int32 → zM → zO) => zit ((M4 (zgr x0 4) (zix x2)) = 0) (k2 ((10 * x3) + x5) M4) (zck (zin x2 720) (k2 (M4 (zgr x0 5) (zix x2)) M4)))))))))))
    refine ev_iload dd_X4_spread_34 5 rfl ?_
    refine ev_aload_n dd_X4_spread_36 0 rfl ?_
    refine ev_getR gf_RX4_28 dd_X4_spread_37 hx0 (by decide) ?_
    refine ev_getR gf_RX4_36 dd_X4_spread_40 (zg_4_0 hx0) (by decide) ?_
    refine ev_getI gf_RX4_42 dd_X4_spread_43 (zg_10_0 (zg_4_0 hx0)) (by decide) ?_
    refine ev_icmp_ge 144 dd_X4_spread_46 (by decide) ?_ ?_
    · refine ev_lv (lv' := [(0, .ref (G.2.1 + x0)), (1, .int x1), (2, .int x2), (3, .int x3)]) [0, 1, 2, 3] rfl ?_
      exact hK144 _
    · refine ev_iload_n dd_X4_spread_49 1 rfl ?_
      refine ev_iload dd_X4_spread_50 5 rfl ?_
      refine ev_callSI (As := [.int x1, .int x5]) cl_RX4_47 (ct_X4_figure l hl G x1 x5 M) dd_X4_spread_52 (by decide) (Nat.le_of_ble_eq_true rfl) (Nat.le_of_ble_eq_true rfl) rfl rfl (fun r3 M3 => ?_)
      refine ev_istore (i := 6) (lv' := [(0, .ref (G.2.1 + x0)), (1, .int x1), (2, .int x2), (3, .int x3), (4, .int x4), (5, .int x5), (6, .int r3)]) [1, 2, 3, 4, 5, 6, 0] dd_X4_spread_55 (by decide) rfl ?_
      refine ev_aload_n dd_X4_spread_57 0 rfl ?_
      refine ev_getR gf_RX4_32 dd_X4_spread_58 hx0 (by decide) ?_
      refine ev_iload_n dd_X4_spread_61 3 rfl ?_
      refine ev_iload dd_X4_spread_62 5 rfl ?_
      refine ev_iload dd_X4_spread_64 4 rfl ?_
      refine ev_iload dd_X4_spread_66 6 rfl ?_
      refine ev_callVI (As := [.int x3, .int x5, .int x4, .int r3]) cl_RX4_86 (ct_X2_allow l hl G (zgr x0 1) (zg_4_1 hx0) x3 x5 x4 r3 M3) dd_X4_spread_68 (zg_4_1 hx0) (by decide) (Nat.le_of_ble_eq_true rfl) (Nat.le_of_ble_eq_true rfl) rfl rfl (fun r4 M4 => ?_)
      refine ev_jo (fun (k1 : zM → zO) => ∀  (M7 : zM), zEv l G Y_X4_spread 12 0 138 [(0, .ref (G.2.1 + x0)), (1, .int x1), (2, .int x2), (3, .int x3), (4, .int x4), (5, .int x5)] [] M7 (k1 M7)) ?_ (fun k1 hk1 => ?_)
      · intro M7
        refine ev_iinc (j := 5) (v := 1) (lv' := [(0, .ref (G.2.1 + x0)), (1, .int x1), (2, .int x2), (3, .int x3), (4, .int x4), (5, .int (x5 + 1))]) [1, 2, 3, 4, 5, 0] dd_X4_spread_138 rfl (by decide) (by decide) rfl ?_
        refine ev_goto 34 dd_X4_spread_141 (by decide) ?_
        exact ih _ _
      · refine ev_if_eq 138 dd_X4_spread_71 (by decide) ?_ ?_
        · refine ev_lv (lv' := [(0, .ref (G.2.1 + x0)), (1, .int x1), (2, .int x2), (3, .int x3), (4, .int x4), (5, .int x5)]) [0, 1, 2, 3, 4, 5] rfl ?_
          exact hk1 _
        · refine ev_iload dd_X4_spread_74 4 rfl ?_
          refine ev_iload dd_X4_spread_76 6 rfl ?_
          refine ev_lv (lv' := [(0, .ref (G.2.1 + x0)), (1, .int x1), (2, .int x2), (3, .int x3), (4, .int x4), (5, .int x5)]) [0, 1, 2, 3, 4, 5] rfl ?_
          refine ev_ixor dd_X4_spread_78 ?_
          refine ev_topi (fun v2 => ?_)
          refine ev_istore (i := 7) (lv' := [(0, .ref (G.2.1 + x0)), (1, .int x1), (2, .int x2), (3, .int x3), (4, .int x4), (5, .int x5), (7, .int v2)]) [1, 2, 3, 4, 5, 6, 0] dd_X4_spread_79 (by decide) rfl ?_
          refine ev_aload_n dd_X4_spread_81 0 rfl ?_
          refine ev_getR gf_RX4_19 dd_X4_spread_82 hx0 (by decide) ?_
          refine ev_iload_n dd_X4_spread_85 2 rfl ?_
          refine ev_iald dd_X4_spread_86 ((zg_4_4 hx0).1) ((zg_4_4 hx0).2) ?_
          refine ev_jo (fun (k2 : Int32 → zM → zO) => ∀ (w1 : Int32) (M5 : zM), zEv l G Y_X4_spread 12 0 106 [(0, .ref (G.2.1 + x0)), (1, .int x1), (2, .int x2), (3, .int x3), (4, .int x4), (5, .int x5), (7, .int v2)] [.int w1] M5 (k2 w1 M5)) ?_ (fun k2 hk2 => ?_)
          · intro w1 M5
            refine ev_istore (i := 8) (lv' := [(0, .ref (G.2.1 + x0)), (1, .int x1), (2, .int x2), (3, .int x3), (4, .int x4), (5, .int x5), (7, .int v2), (8, .int w1)]) [1, 2, 3, 4, 5, 6, 7, 0] dd_X4_spread_106 (by decide) rfl ?_
            refine ev_aload_n dd_X4_spread_108 0 rfl ?_
            refine ev_iload_n dd_X4_spread_109 1 rfl ?_
            refine ev_iload dd_X4_spread_110 6 rfl ?_
            refine ev_iconst (v := 3) dd_X4_spread_112 (by decide) ?_
            refine ev_iload_n dd_X4_spread_113 3 rfl ?_
            refine ev_imul dd_X4_spread_114 ?_
            refine ev_ishl dd_X4_spread_115 ?_
            refine ev_ixor dd_X4_spread_116 ?_
            refine ev_iload dd_X4_spread_117 6 rfl ?_
            refine ev_lv (lv' := [(0, .ref (G.2.1 + x0)), (1, .int x1), (2, .int x2), (3, .int x3), (4, .int x4), (5, .int x5), (8, .int w1)]) [0, 1, 2, 3, 4, 5, 7] rfl ?_
            refine ev_iconst (v := 3) dd_X4_spread_119 (by decide) ?_
            refine ev_iload dd_X4_spread_120 5 rfl ?_
            refine ev_imul dd_X4_spread_122 ?_
            refine ev_ishl dd_X4_spread_123 ?_
            refine ev_ixor dd_X4_spread_124 ?_
            refine ev_aload_n dd_X4_spread_125 0 rfl ?_
            refine ev_getR gf_RX4_19 dd_X4_spread_126 hx0 (by decide) ?_
            refine ev_iload_n dd_X4_spread_129 2 rfl ?_
            refine ev_iald dd_X4_spread_130 ((zg_4_4 hx0).1) ((zg_4_4 hx0).2) ?_
            refine ev_iconst (v := 1) dd_X4_spread_131 (by decide) ?_
            refine ev_iadd dd_X4_spread_132 ?_
            refine ev_iload dd_X4_spread_133 6 rfl ?_
            refine ev_lv (lv' := [(0, .ref (G.2.1 + x0)), (1, .int x1), (2, .int x2), (3, .int x3), (4, .int x4), (5, .int x5)]) [0, 1, 2, 3, 4, 5] rfl ?_
            refine ev_callVV (As := [.int ((x1 ^^^ (v2 <<< ((3 * x3) &&& 31))) ^^^ (v2 <<< ((3 * x5) &&& 31))), .int ((M5 (zgr x0 4) (zix x2)) + 1), .int w1]) cl_RX4_76 (ct_X4_reach l hl G x0 hx0 ((x1 ^^^ (v2 <<< ((3 * x3) &&& 31))) ^^^ (v2 <<< ((3 * x5) &&& 31))) ((M5 (zgr x0 4) (zix x2)) + 1) w1 M5) dd_X4_spread_135 hx0 (by decide) (Nat.le_of_ble_eq_true rfl) (Nat.le_of_ble_eq_true rfl) rfl rfl (fun M6 => ?_)
            exact hk1 _
          · refine ev_if_ne 100 dd_X4_spread_87 (by decide) ?_ ?_
            · refine ev_aload_n dd_X4_spread_100 0 rfl ?_
              refine ev_getR gf_RX4_22 dd_X4_spread_101 hx0 (by decide) ?_
              refine ev_iload_n dd_X4_spread_104 2 rfl ?_
              refine ev_iald dd_X4_spread_105 ((zg_4_5 hx0).1) ((zg_4_5 hx0).2) ?_
              exact hk2 _ _
            · refine ev_bipush (v := 10) dd_X4_spread_90 (by decide) ?_
              refine ev_iload_n dd_X4_spread_92 3 rfl ?_
              refine ev_imul dd_X4_spread_93 ?_
              refine ev_iload dd_X4_spread_94 5 rfl ?_
              refine ev_iadd dd_X4_spread_96 ?_
              refine ev_goto 106 dd_X4_spread_97 (by decide) ?_
              exact hk2 _ _
set_option maxHeartbeats 1000000 in
set_option maxRecDepth 20000 in
theorem ct_X4_spread_L8 (l : Launch) (hl : l.stackTraces = false) (G : zG) (x0 : Nat) (hx0 : zsh x0 = 4) (x1 : Int32) (x2 : Int32) (K150 : zM → zO) (hK150 : ∀  (M : zM), zEv l G Y_X4_spread 12 0 150 [] [] M (K150 M)) : ∀ (n : Nat) (x3 : Int32) (M : zM), zEv l G Y_X4_spread 12 0 8 [(0, .ref (G.2.1 + x0)), (1, .int x1), (2, .int x2), (3, .int x3)] [] M (F_X4_spread_L8 x0 x1 x2 K150 n x3 M) := by
  intro n
  induction n with
  | zero => intro x3 M; exact ev_none
  | succ n ih =>
    intro x3 M
    show zEv l G Y_X4_spread 12 0 8 [(0, .ref (G.2.1 + x0)), (1, .int x1), (2, .int x2), (3, .int x3)] [] M (zit ((M (zgr (zgr x0 0) 0) 0) ≤ x3) (K150 M) (zbI (F_X4_figure x1 x3 M) (fun r2 M2 => zlt (x3 + 1) (fun v1 => F_X4_spread_L34 x0 x1 x2 x3 r2 (fun  (M8 : zM) => F_X4_spread_L8 x0 x1 x2 K150 n (x3 + 1) M8) zN v1 M2))))
    refine ev_iload_n dd_X4_spread_8 3 rfl ?_
    refine ev_aload_n dd_X4_spread_9 0 rfl ?_
    refine ev_getR gf_RX4_28 dd_X4_spread_10 hx0 (by decide) ?_
    refine ev_getR gf_RX4_36 dd_X4_spread_13 (zg_4_0 hx0) (by decide) ?_
    refine ev_getI gf_RX4_42 dd_X4_spread_16 (zg_10_0 (zg_4_0 hx0)) (by decide) ?_
    refine ev_icmp_ge 150 dd_X4_spread_19 (by decide) ?_ ?_
    · refine ev_lv (lv' := []) [] rfl ?_
      exact hK150 _
    · refine ev_iload_n dd_X4_spread_22 1 rfl ?_
      refine ev_iload_n dd_X4_spread_23 3 rfl ?_
      refine ev_callSI (As := [.int x1, .int x3]) cl_RX4_47 (ct_X4_figure l hl G x1 x3 M) dd_X4_spread_24 (by decide) (Nat.le_of_ble_eq_true rfl) (Nat.le_of_ble_eq_true rfl) rfl rfl (fun r2 M2 => ?_)
      refine ev_istore (i := 4) (lv' := [(0, .ref (G.2.1 + x0)), (1, .int x1), (2, .int x2), (3, .int x3), (4, .int r2)]) [1, 2, 3, 4, 0] dd_X4_spread_27 (by decide) rfl ?_
      refine ev_iload_n dd_X4_spread_29 3 rfl ?_
      refine ev_iconst (v := 1) dd_X4_spread_30 (by decide) ?_
      refine ev_iadd dd_X4_spread_31 ?_
      refine ev_topi (fun v1 => ?_)
      refine ev_istore (i := 5) (lv' := [(0, .ref (G.2.1 + x0)), (1, .int x1), (2, .int x2), (3, .int x3), (4, .int r2), (5, .int v1)]) [1, 2, 3, 4, 5, 0] dd_X4_spread_32 (by decide) rfl ?_
      refine ct_X4_spread_L34 l hl G x0 hx0 x1 x2 x3 r2 _ (fun M8 => ?_) zN _ _
      refine ev_iinc (j := 3) (v := 1) (lv' := [(0, .ref (G.2.1 + x0)), (1, .int x1), (2, .int x2), (3, .int (x3 + 1))]) [1, 2, 3, 0] dd_X4_spread_144 rfl (by decide) (by decide) rfl ?_
      refine ev_goto 8 dd_X4_spread_147 (by decide) ?_
      exact ih _ _
set_option maxHeartbeats 1000000 in
set_option maxRecDepth 20000 in
theorem ct_X4_spread (l : Launch) (hl : l.stackTraces = false) (G : zG) (t : Nat) (ht : zsh t = 4) (a1 : Int32) (M : zM) : zMt l G Y_X4_spread 12 [.ref (G.2.1 + t), .int a1] M (F_X4_spread t a1 M) := by
  refine zMt_of (by decide +kernel) (Nat.le_of_ble_eq_true rfl) ?_
  show zEv l G Y_X4_spread 12 0 0 [(0, .ref (G.2.1 + t)), (1, .int a1)] [] M (zbI (F_X4_number t a1 M) (fun r1 M1 => F_X4_spread_L8 t a1 r1 (fun  (M9 : zM) => zV M9) zN 0 M1))
  refine ev_aload_n dd_X4_spread_0 0 rfl ?_
  refine ev_iload_n dd_X4_spread_1 1 rfl ?_
  refine ev_callVI (As := [.int a1]) cl_RX4_83 (ct_X4_number l hl G t ht a1 M) dd_X4_spread_2 ht (by decide) (Nat.le_of_ble_eq_true rfl) (Nat.le_of_ble_eq_true rfl) rfl rfl (fun r1 M1 => ?_)
  refine ev_istore_n (i := 2) (lv' := [(0, .ref (G.2.1 + t)), (1, .int a1), (2, .int r1)]) [1, 2, 0] dd_X4_spread_5 rfl (by decide) rfl ?_
  refine ev_iconst (v := 0) dd_X4_spread_6 (by decide) ?_
  refine ev_istore_n (i := 3) (lv' := [(0, .ref (G.2.1 + t)), (1, .int a1), (2, .int r1), (3, .int 0)]) [1, 2, 3, 0] dd_X4_spread_7 rfl (by decide) rfl ?_
  refine ct_X4_spread_L8 l hl G t ht a1 r1 _ (fun M9 => ?_) zN _ _
  exact ev_vret dd_X4_spread_150 rfl (Nat.le_of_ble_eq_true rfl) rfl
/-! X4_find -/
theorem dd_X4_find_0 : decode Y_X4_find.2.1 0 = .ok (.aload_n 0, 1) := by decide +kernel
theorem dd_X4_find_1 : decode Y_X4_find.2.1 1 = .ok (.getfield 25, 3) := by decide +kernel
theorem dd_X4_find_4 : decode Y_X4_find.2.1 4 = .ok (.iload_n 1, 1) := by decide +kernel
theorem dd_X4_find_5 : decode Y_X4_find.2.1 5 = .ok (.if_icmp .eq 18, 3) := by decide +kernel
theorem dd_X4_find_8 : decode Y_X4_find.2.1 8 = .ok (.aload_n 0, 1) := by decide +kernel
theorem dd_X4_find_9 : decode Y_X4_find.2.1 9 = .ok (.getfield 28, 3) := by decide +kernel
theorem dd_X4_find_12 : decode Y_X4_find.2.1 12 = .ok (.getfield 36, 3) := by decide +kernel
theorem dd_X4_find_15 : decode Y_X4_find.2.1 15 = .ok (.getfield 42, 3) := by decide +kernel
theorem dd_X4_find_18 : decode Y_X4_find.2.1 18 = .ok (.bipush 6, 2) := by decide +kernel
theorem dd_X4_find_20 : decode Y_X4_find.2.1 20 = .ok (.if_icmp .le 4, 3) := by decide +kernel
theorem dd_X4_find_23 : decode Y_X4_find.2.1 23 = .ok (.return_, 1) := by decide +kernel
theorem dd_X4_find_24 : decode Y_X4_find.2.1 24 = .ok (.aload_n 0, 1) := by decide +kernel
theorem dd_X4_find_25 : decode Y_X4_find.2.1 25 = .ok (.iload_n 1, 1) := by decide +kernel
theorem dd_X4_find_26 : decode Y_X4_find.2.1 26 = .ok (.putfield 25, 3) := by decide +kernel
theorem dd_X4_find_29 : decode Y_X4_find.2.1 29 = .ok (.aload_n 0, 1) := by decide +kernel
theorem dd_X4_find_30 : decode Y_X4_find.2.1 30 = .ok (.getfield 32, 3) := by decide +kernel
theorem dd_X4_find_33 : decode Y_X4_find.2.1 33 = .ok (.iload_n 1, 1) := by decide +kernel
theorem dd_X4_find_34 : decode Y_X4_find.2.1 34 = .ok (.invokevirtual 60, 3) := by decide +kernel
theorem dd_X4_find_37 : decode Y_X4_find.2.1 37 = .ok (.aload_n 0, 1) := by decide +kernel
theorem dd_X4_find_38 : decode Y_X4_find.2.1 38 = .ok (.getfield 19, 3) := by decide +kernel
theorem dd_X4_find_41 : decode Y_X4_find.2.1 41 = .ok (.iconst (-1), 1) := by decide +kernel
theorem dd_X4_find_42 : decode Y_X4_find.2.1 42 = .ok (.invokestatic 66, 3) := by decide +kernel
theorem dd_X4_find_45 : decode Y_X4_find.2.1 45 = .ok (.aload_n 0, 1) := by decide +kernel
theorem dd_X4_find_46 : decode Y_X4_find.2.1 46 = .ok (.iconst 0, 1) := by decide +kernel
theorem dd_X4_find_47 : decode Y_X4_find.2.1 47 = .ok (.putfield 15, 3) := by decide +kernel
theorem dd_X4_find_50 : decode Y_X4_find.2.1 50 = .ok (.aload_n 0, 1) := by decide +kernel
theorem dd_X4_find_51 : decode Y_X4_find.2.1 51 = .ok (.aload_n 0, 1) := by decide +kernel
theorem dd_X4_find_52 : decode Y_X4_find.2.1 52 = .ok (.invokevirtual 72, 3) := by decide +kernel
theorem dd_X4_find_55 : decode Y_X4_find.2.1 55 = .ok (.iconst 0, 1) := by decide +kernel
theorem dd_X4_find_56 : decode Y_X4_find.2.1 56 = .ok (.iconst (-1), 1) := by decide +kernel
theorem dd_X4_find_57 : decode Y_X4_find.2.1 57 = .ok (.invokevirtual 76, 3) := by decide +kernel
theorem dd_X4_find_60 : decode Y_X4_find.2.1 60 = .ok (.iconst 0, 1) := by decide +kernel
theorem dd_X4_find_61 : decode Y_X4_find.2.1 61 = .ok (.istore_n 2, 1) := by decide +kernel
theorem dd_X4_find_62 : decode Y_X4_find.2.1 62 = .ok (.iload_n 2, 1) := by decide +kernel
theorem dd_X4_find_63 : decode Y_X4_find.2.1 63 = .ok (.sipush 720, 3) := by decide +kernel
theorem dd_X4_find_66 : decode Y_X4_find.2.1 66 = .ok (.if_icmp .ge 27, 3) := by decide +kernel
theorem dd_X4_find_69 : decode Y_X4_find.2.1 69 = .ok (.iload_n 2, 1) := by decide +kernel
theorem dd_X4_find_70 : decode Y_X4_find.2.1 70 = .ok (.aload_n 0, 1) := by decide +kernel
theorem dd_X4_find_71 : decode Y_X4_find.2.1 71 = .ok (.getfield 15, 3) := by decide +kernel
theorem dd_X4_find_74 : decode Y_X4_find.2.1 74 = .ok (.if_icmp .ge 19, 3) := by decide +kernel
theorem dd_X4_find_77 : decode Y_X4_find.2.1 77 = .ok (.aload_n 0, 1) := by decide +kernel
theorem dd_X4_find_78 : decode Y_X4_find.2.1 78 = .ok (.aload_n 0, 1) := by decide +kernel
theorem dd_X4_find_79 : decode Y_X4_find.2.1 79 = .ok (.getfield 9, 3) := by decide +kernel
theorem dd_X4_find_82 : decode Y_X4_find.2.1 82 = .ok (.iload_n 2, 1) := by decide +kernel
theorem dd_X4_find_83 : decode Y_X4_find.2.1 83 = .ok (.iaload, 1) := by decide +kernel
theorem dd_X4_find_84 : decode Y_X4_find.2.1 84 = .ok (.invokevirtual 80, 3) := by decide +kernel
theorem dd_X4_find_87 : decode Y_X4_find.2.1 87 = .ok (.iinc 2 1, 3) := by decide +kernel
theorem dd_X4_find_90 : decode Y_X4_find.2.1 90 = .ok (.goto (-28), 3) := by decide +kernel
theorem dd_X4_find_93 : decode Y_X4_find.2.1 93 = .ok (.return_, 1) := by decide +kernel
def F_X4_find_L62 (x0 : Nat) (K93 : zM → zO) : Nat → Int32 → zM → zO
  | 0, _, _ => none
  | n + 1, x2, M => zit (720 ≤ x2) (K93 M) (zit ((M x0 3) ≤ x2) (K93 M) (zck (zin x2 720) (zbV (F_X4_spread x0 (M (zgr x0 2) (zix x2)) M) (fun M7 => F_X4_find_L62 x0 K93 n (x2 + 1) M7))))
def F_X4_find (t : Nat) (a1 : Int32) (M : zM) : zO := zjo (fun  (M9 : zM) => zV M9) (fun (k1 : zM → zO) => zit ((M t 6) = a1) (k1 M) (zit ((M (zgr (zgr t 0) 0) 0) ≤ 6) (zst (zup M t 6 a1) (fun M1 => zbV (F_X2_renew (zgr t 1) a1 M1) (fun M2 => zbV (F_J7_fill_53178 (zgr t 4) (-1) M2) (fun M3 => zst (zup M3 t 3 0) (fun M4 => zbI (F_X4_arrangementNow t M4) (fun r1 M5 => zbV (F_X4_reach t r1 0 (-1) M5) (fun M6 => F_X4_find_L62 t (fun  (M8 : zM) => zV M8) zN 0 M6))))))) (k1 M)))
set_option maxHeartbeats 1000000 in
set_option maxRecDepth 20000 in
theorem ct_X4_find_L62 (l : Launch) (hl : l.stackTraces = false) (G : zG) (x0 : Nat) (hx0 : zsh x0 = 4) (K93 : zM → zO) (hK93 : ∀  (M : zM), zEv l G Y_X4_find 13 0 93 [] [] M (K93 M)) : ∀ (n : Nat) (x2 : Int32) (M : zM), zEv l G Y_X4_find 13 0 62 [(0, .ref (G.2.1 + x0)), (2, .int x2)] [] M (F_X4_find_L62 x0 K93 n x2 M) := by
  intro n
  induction n with
  | zero => intro x2 M; exact ev_none
  | succ n ih =>
    intro x2 M
    show zEv l G Y_X4_find 13 0 62 [(0, .ref (G.2.1 + x0)), (2, .int x2)] [] M (zit (720 ≤ x2) (K93 M) (zit ((M x0 3) ≤ x2) (K93 M) (zck (zin x2 720) (zbV (F_X4_spread x0 (M (zgr x0 2) (zix x2)) M) (fun M7 => F_X4_find_L62 x0 K93 n (x2 + 1) M7)))))
    refine ev_iload_n dd_X4_find_62 1 rfl ?_
    refine ev_sipush (v := 720) dd_X4_find_63 (by decide) ?_
    refine ev_icmp_ge 93 dd_X4_find_66 (by decide) ?_ ?_
    · refine ev_lv (lv' := []) [] rfl ?_
      exact hK93 _
    · refine ev_iload_n dd_X4_find_69 1 rfl ?_
      refine ev_aload_n dd_X4_find_70 0 rfl ?_
      refine ev_getI gf_RX4_15 dd_X4_find_71 hx0 (by decide) ?_
      refine ev_icmp_ge 93 dd_X4_find_74 (by decide) ?_ ?_
      · refine ev_lv (lv' := []) [] rfl ?_
        exact hK93 _
      · refine ev_aload_n dd_X4_find_77 0 rfl ?_
        refine ev_aload_n dd_X4_find_78 0 rfl ?_
        refine ev_getR gf_RX4_9 dd_X4_find_79 hx0 (by decide) ?_
        refine ev_iload_n dd_X4_find_82 1 rfl ?_
        refine ev_iald dd_X4_find_83 ((zg_4_2 hx0).1) ((zg_4_2 hx0).2) ?_
        refine ev_callVV (As := [.int (M (zgr x0 2) (zix x2))]) cl_RX4_80 (ct_X4_spread l hl G x0 hx0 (M (zgr x0 2) (zix x2)) M) dd_X4_find_84 hx0 (by decide) (Nat.le_of_ble_eq_true rfl) (Nat.le_of_ble_eq_true rfl) rfl rfl (fun M7 => ?_)
        refine ev_iinc (j := 1) (v := 1) (lv' := [(0, .ref (G.2.1 + x0)), (2, .int (x2 + 1))]) [1, 0] dd_X4_find_87 rfl (by decide) (by decide) rfl ?_
        refine ev_goto 62 dd_X4_find_90 (by decide) ?_
        exact ih _ _
set_option maxHeartbeats 1000000 in
set_option maxRecDepth 20000 in
theorem ct_X4_find (l : Launch) (hl : l.stackTraces = false) (G : zG) (t : Nat) (ht : zsh t = 4) (a1 : Int32) (M : zM) : zMt l G Y_X4_find 13 [.ref (G.2.1 + t), .int a1] M (F_X4_find t a1 M) := by
  refine zMt_of (by decide +kernel) (Nat.le_of_ble_eq_true rfl) ?_
  show zEv l G Y_X4_find 13 0 0 [(0, .ref (G.2.1 + t)), (1, .int a1)] [] M (zjo (fun  (M9 : zM) => zV M9) (fun (k1 : zM → zO) => zit ((M t 6) = a1) (k1 M) (zit ((M (zgr (zgr t 0) 0) 0) ≤ 6) (zst (zup M t 6 a1) (fun M1 => zbV (F_X2_renew (zgr t 1) a1 M1) (fun M2 => zbV (F_J7_fill_53178 (zgr t 4) (-1) M2) (fun M3 => zst (zup M3 t 3 0) (fun M4 => zbI (F_X4_arrangementNow t M4) (fun r1 M5 => zbV (F_X4_reach t r1 0 (-1) M5) (fun M6 => F_X4_find_L62 t (fun  (M8 : zM) => zV M8) zN 0 M6))))))) (k1 M))))
  refine ev_aload_n dd_X4_find_0 0 rfl ?_
  refine ev_getI gf_RX4_25 dd_X4_find_1 ht (by decide) ?_
  refine ev_iload_n dd_X4_find_4 1 rfl ?_
  refine ev_jo (fun (k1 : zM → zO) => ∀  (M9 : zM), zEv l G Y_X4_find 13 0 23 [] [] M9 (k1 M9)) ?_ (fun k1 hk1 => ?_)
  · intro M9
    exact ev_vret dd_X4_find_23 rfl (Nat.le_of_ble_eq_true rfl) rfl
  · refine ev_icmp_eq 23 dd_X4_find_5 (by decide) ?_ ?_
    · refine ev_lv (lv' := []) [] rfl ?_
      exact hk1 _
    · refine ev_aload_n dd_X4_find_8 0 rfl ?_
      refine ev_getR gf_RX4_28 dd_X4_find_9 ht (by decide) ?_
      refine ev_getR gf_RX4_36 dd_X4_find_12 (zg_4_0 ht) (by decide) ?_
      refine ev_getI gf_RX4_42 dd_X4_find_15 (zg_10_0 (zg_4_0 ht)) (by decide) ?_
      refine ev_bipush (v := 6) dd_X4_find_18 (by decide) ?_
      refine ev_icmp_le 24 dd_X4_find_20 (by decide) ?_ ?_
      · refine ev_aload_n dd_X4_find_24 0 rfl ?_
        refine ev_iload_n dd_X4_find_25 1 rfl ?_
        refine ev_putI gw_RX4_25 dd_X4_find_26 ht (by decide) ?_
        refine ev_st (fun M1 => ?_)
        refine ev_aload_n dd_X4_find_29 0 rfl ?_
        refine ev_getR gf_RX4_32 dd_X4_find_30 ht (by decide) ?_
        refine ev_iload_n dd_X4_find_33 1 rfl ?_
        refine ev_lv (lv' := [(0, .ref (G.2.1 + t))]) [0] rfl ?_
        refine ev_callVV (As := [.int a1]) cl_RX4_60 (ct_X2_renew l hl G (zgr t 1) (zg_4_1 ht) a1 M1) dd_X4_find_34 (zg_4_1 ht) (by decide) (Nat.le_of_ble_eq_true rfl) (Nat.le_of_ble_eq_true rfl) rfl rfl (fun M2 => ?_)
        refine ev_aload_n dd_X4_find_37 0 rfl ?_
        refine ev_getR gf_RX4_19 dd_X4_find_38 ht (by decide) ?_
        refine ev_iconst (v := (-1)) dd_X4_find_41 (by decide) ?_
        refine ev_callSV (As := [.ref (G.2.1 + (zgr t 4)), .int (-1)]) cl_RX4_66 (ct_J7_fill_53178 l hl G (zgr t 4) ((zg_4_4 ht).1) (-1) M2) dd_X4_find_42 (by decide) (Nat.le_of_ble_eq_true rfl) (Nat.le_of_ble_eq_true rfl) rfl rfl (fun M3 => ?_)
        refine ev_aload_n dd_X4_find_45 0 rfl ?_
        refine ev_iconst (v := 0) dd_X4_find_46 (by decide) ?_
        refine ev_putI gw_RX4_15 dd_X4_find_47 ht (by decide) ?_
        refine ev_st (fun M4 => ?_)
        refine ev_aload_n dd_X4_find_50 0 rfl ?_
        refine ev_aload_n dd_X4_find_51 0 rfl ?_
        refine ev_callVI (As := []) cl_RX4_72 (ct_X4_arrangementNow l hl G t ht M4) dd_X4_find_52 ht (by decide) (Nat.le_of_ble_eq_true rfl) (Nat.le_of_ble_eq_true rfl) rfl rfl (fun r1 M5 => ?_)
        refine ev_iconst (v := 0) dd_X4_find_55 (by decide) ?_
        refine ev_iconst (v := (-1)) dd_X4_find_56 (by decide) ?_
        refine ev_callVV (As := [.int r1, .int 0, .int (-1)]) cl_RX4_76 (ct_X4_reach l hl G t ht r1 0 (-1) M5) dd_X4_find_57 ht (by decide) (Nat.le_of_ble_eq_true rfl) (Nat.le_of_ble_eq_true rfl) rfl rfl (fun M6 => ?_)
        refine ev_iconst (v := 0) dd_X4_find_60 (by decide) ?_
        refine ev_istore_n (i := 2) (lv' := [(0, .ref (G.2.1 + t)), (2, .int 0)]) [1, 0] dd_X4_find_61 rfl (by decide) rfl ?_
        refine ct_X4_find_L62 l hl G t ht _ (fun M8 => ?_) zN _ _
        exact ev_vret dd_X4_find_93 rfl (Nat.le_of_ble_eq_true rfl) rfl
      · refine ev_lv (lv' := []) [] rfl ?_
        exact hk1 _
/-! X4_firstSwap -/
theorem dd_X4_firstSwap_0 : decode Y_X4_firstSwap.2.1 0 = .ok (.aload_n 0, 1) := by decide +kernel
theorem dd_X4_firstSwap_1 : decode Y_X4_firstSwap.2.1 1 = .ok (.iload_n 1, 1) := by decide +kernel
theorem dd_X4_firstSwap_2 : decode Y_X4_firstSwap.2.1 2 = .ok (.invokevirtual 83, 3) := by decide +kernel
theorem dd_X4_firstSwap_5 : decode Y_X4_firstSwap.2.1 5 = .ok (.istore_n 2, 1) := by decide +kernel
theorem dd_X4_firstSwap_6 : decode Y_X4_firstSwap.2.1 6 = .ok (.aload_n 0, 1) := by decide +kernel
theorem dd_X4_firstSwap_7 : decode Y_X4_firstSwap.2.1 7 = .ok (.getfield 19, 3) := by decide +kernel
theorem dd_X4_firstSwap_10 : decode Y_X4_firstSwap.2.1 10 = .ok (.iload_n 2, 1) := by decide +kernel
theorem dd_X4_firstSwap_11 : decode Y_X4_firstSwap.2.1 11 = .ok (.iaload, 1) := by decide +kernel
theorem dd_X4_firstSwap_12 : decode Y_X4_firstSwap.2.1 12 = .ok (.iconst (-1), 1) := by decide +kernel
theorem dd_X4_firstSwap_13 : decode Y_X4_firstSwap.2.1 13 = .ok (.if_icmp .ne 7, 3) := by decide +kernel
theorem dd_X4_firstSwap_16 : decode Y_X4_firstSwap.2.1 16 = .ok (.iconst (-1), 1) := by decide +kernel
theorem dd_X4_firstSwap_17 : decode Y_X4_firstSwap.2.1 17 = .ok (.goto 9, 3) := by decide +kernel
theorem dd_X4_firstSwap_20 : decode Y_X4_firstSwap.2.1 20 = .ok (.aload_n 0, 1) := by decide +kernel
theorem dd_X4_firstSwap_21 : decode Y_X4_firstSwap.2.1 21 = .ok (.getfield 22, 3) := by decide +kernel
theorem dd_X4_firstSwap_24 : decode Y_X4_firstSwap.2.1 24 = .ok (.iload_n 2, 1) := by decide +kernel
theorem dd_X4_firstSwap_25 : decode Y_X4_firstSwap.2.1 25 = .ok (.iaload, 1) := by decide +kernel
theorem dd_X4_firstSwap_26 : decode Y_X4_firstSwap.2.1 26 = .ok (.ireturn, 1) := by decide +kernel
def F_X4_firstSwap (t : Nat) (a1 : Int32) (M : zM) : zO := zbI (F_X4_number t a1 M) (fun r1 M1 => zck (zin r1 720) (zjo (fun (w1 : Int32) (M2 : zM) => zI w1 M2) (fun (k1 : Int32 → zM → zO) => zit ((M1 (zgr t 4) (zix r1)) = (-1)) (k1 (-1) M1) (zck (zin r1 720) (k1 (M1 (zgr t 5) (zix r1)) M1)))))
set_option maxHeartbeats 1000000 in
set_option maxRecDepth 20000 in
theorem ct_X4_firstSwap (l : Launch) (hl : l.stackTraces = false) (G : zG) (t : Nat) (ht : zsh t = 4) (a1 : Int32) (M : zM) : zMt l G Y_X4_firstSwap 3 [.ref (G.2.1 + t), .int a1] M (F_X4_firstSwap t a1 M) := by
  refine zMt_of (by decide +kernel) (Nat.le_of_ble_eq_true rfl) ?_
  show zEv l G Y_X4_firstSwap 3 0 0 [(0, .ref (G.2.1 + t)), (1, .int a1)] [] M (zbI (F_X4_number t a1 M) (fun r1 M1 => zck (zin r1 720) (zjo (fun (w1 : Int32) (M2 : zM) => zI w1 M2) (fun (k1 : Int32 → zM → zO) => zit ((M1 (zgr t 4) (zix r1)) = (-1)) (k1 (-1) M1) (zck (zin r1 720) (k1 (M1 (zgr t 5) (zix r1)) M1))))))
  refine ev_aload_n dd_X4_firstSwap_0 0 rfl ?_
  refine ev_iload_n dd_X4_firstSwap_1 1 rfl ?_
  refine ev_lv (lv' := [(0, .ref (G.2.1 + t))]) [0] rfl ?_
  refine ev_callVI (As := [.int a1]) cl_RX4_83 (ct_X4_number l hl G t ht a1 M) dd_X4_firstSwap_2 ht (by decide) (Nat.le_of_ble_eq_true rfl) (Nat.le_of_ble_eq_true rfl) rfl rfl (fun r1 M1 => ?_)
  refine ev_istore_n (i := 2) (lv' := [(0, .ref (G.2.1 + t)), (2, .int r1)]) [1, 0] dd_X4_firstSwap_5 rfl (by decide) rfl ?_
  refine ev_aload_n dd_X4_firstSwap_6 0 rfl ?_
  refine ev_getR gf_RX4_19 dd_X4_firstSwap_7 ht (by decide) ?_
  refine ev_iload_n dd_X4_firstSwap_10 1 rfl ?_
  refine ev_iald dd_X4_firstSwap_11 ((zg_4_4 ht).1) ((zg_4_4 ht).2) ?_
  refine ev_iconst (v := (-1)) dd_X4_firstSwap_12 (by decide) ?_
  refine ev_jo (fun (k1 : Int32 → zM → zO) => ∀ (w1 : Int32) (M2 : zM), zEv l G Y_X4_firstSwap 3 0 26 [] [.int w1] M2 (k1 w1 M2)) ?_ (fun k1 hk1 => ?_)
  · intro w1 M2
    exact ev_iret dd_X4_firstSwap_26 rfl (Nat.le_of_ble_eq_true rfl) rfl
  · refine ev_icmp_ne 20 dd_X4_firstSwap_13 (by decide) ?_ ?_
    · refine ev_aload_n dd_X4_firstSwap_20 0 rfl ?_
      refine ev_lv (lv' := [(2, .int r1)]) [1] rfl ?_
      refine ev_getR gf_RX4_22 dd_X4_firstSwap_21 ht (by decide) ?_
      refine ev_iload_n dd_X4_firstSwap_24 0 rfl ?_
      refine ev_lv (lv' := []) [] rfl ?_
      refine ev_iald dd_X4_firstSwap_25 ((zg_4_5 ht).1) ((zg_4_5 ht).2) ?_
      exact hk1 _ _
    · refine ev_lv (lv' := []) [] rfl ?_
      refine ev_iconst (v := (-1)) dd_X4_firstSwap_16 (by decide) ?_
      refine ev_goto 26 dd_X4_firstSwap_17 (by decide) ?_
      exact hk1 _ _
/-! X4_isArrangement -/
theorem dd_X4_isArrangement_0 : decode Y_X4_isArrangement.2.1 0 = .ok (.aload_n 0, 1) := by decide +kernel
theorem dd_X4_isArrangement_1 : decode Y_X4_isArrangement.2.1 1 = .ok (.getfield 28, 3) := by decide +kernel
theorem dd_X4_isArrangement_4 : decode Y_X4_isArrangement.2.1 4 = .ok (.getfield 36, 3) := by decide +kernel
theorem dd_X4_isArrangement_7 : decode Y_X4_isArrangement.2.1 7 = .ok (.getfield 42, 3) := by decide +kernel
theorem dd_X4_isArrangement_10 : decode Y_X4_isArrangement.2.1 10 = .ok (.istore_n 2, 1) := by decide +kernel
theorem dd_X4_isArrangement_11 : decode Y_X4_isArrangement.2.1 11 = .ok (.iload_n 1, 1) := by decide +kernel
theorem dd_X4_isArrangement_12 : decode Y_X4_isArrangement.2.1 12 = .ok (.ifCond .lt 11, 3) := by decide +kernel
theorem dd_X4_isArrangement_15 : decode Y_X4_isArrangement.2.1 15 = .ok (.iload_n 1, 1) := by decide +kernel
theorem dd_X4_isArrangement_16 : decode Y_X4_isArrangement.2.1 16 = .ok (.iconst 3, 1) := by decide +kernel
theorem dd_X4_isArrangement_17 : decode Y_X4_isArrangement.2.1 17 = .ok (.iload_n 2, 1) := by decide +kernel
theorem dd_X4_isArrangement_18 : decode Y_X4_isArrangement.2.1 18 = .ok (.imul, 1) := by decide +kernel
theorem dd_X4_isArrangement_19 : decode Y_X4_isArrangement.2.1 19 = .ok (.ishr, 1) := by decide +kernel
theorem dd_X4_isArrangement_20 : decode Y_X4_isArrangement.2.1 20 = .ok (.ifCond .eq 5, 3) := by decide +kernel
theorem dd_X4_isArrangement_23 : decode Y_X4_isArrangement.2.1 23 = .ok (.iconst 0, 1) := by decide +kernel
theorem dd_X4_isArrangement_24 : decode Y_X4_isArrangement.2.1 24 = .ok (.ireturn, 1) := by decide +kernel
theorem dd_X4_isArrangement_25 : decode Y_X4_isArrangement.2.1 25 = .ok (.iconst 0, 1) := by decide +kernel
theorem dd_X4_isArrangement_26 : decode Y_X4_isArrangement.2.1 26 = .ok (.istore_n 3, 1) := by decide +kernel
theorem dd_X4_isArrangement_27 : decode Y_X4_isArrangement.2.1 27 = .ok (.iconst 0, 1) := by decide +kernel
theorem dd_X4_isArrangement_28 : decode Y_X4_isArrangement.2.1 28 = .ok (.istore 4, 2) := by decide +kernel
theorem dd_X4_isArrangement_30 : decode Y_X4_isArrangement.2.1 30 = .ok (.iload 4, 2) := by decide +kernel
theorem dd_X4_isArrangement_32 : decode Y_X4_isArrangement.2.1 32 = .ok (.iload_n 2, 1) := by decide +kernel
theorem dd_X4_isArrangement_33 : decode Y_X4_isArrangement.2.1 33 = .ok (.if_icmp .ge 20, 3) := by decide +kernel
theorem dd_X4_isArrangement_36 : decode Y_X4_isArrangement.2.1 36 = .ok (.iload_n 3, 1) := by decide +kernel
theorem dd_X4_isArrangement_37 : decode Y_X4_isArrangement.2.1 37 = .ok (.iconst 1, 1) := by decide +kernel
theorem dd_X4_isArrangement_38 : decode Y_X4_isArrangement.2.1 38 = .ok (.iload_n 1, 1) := by decide +kernel
theorem dd_X4_isArrangement_39 : decode Y_X4_isArrangement.2.1 39 = .ok (.iload 4, 2) := by decide +kernel
theorem dd_X4_isArrangement_41 : decode Y_X4_isArrangement.2.1 41 = .ok (.invokestatic 47, 3) := by decide +kernel
theorem dd_X4_isArrangement_44 : decode Y_X4_isArrangement.2.1 44 = .ok (.ishl, 1) := by decide +kernel
theorem dd_X4_isArrangement_45 : decode Y_X4_isArrangement.2.1 45 = .ok (.ior, 1) := by decide +kernel
theorem dd_X4_isArrangement_46 : decode Y_X4_isArrangement.2.1 46 = .ok (.istore_n 3, 1) := by decide +kernel
theorem dd_X4_isArrangement_47 : decode Y_X4_isArrangement.2.1 47 = .ok (.iinc 4 1, 3) := by decide +kernel
theorem dd_X4_isArrangement_50 : decode Y_X4_isArrangement.2.1 50 = .ok (.goto (-20), 3) := by decide +kernel
theorem dd_X4_isArrangement_53 : decode Y_X4_isArrangement.2.1 53 = .ok (.iload_n 3, 1) := by decide +kernel
theorem dd_X4_isArrangement_54 : decode Y_X4_isArrangement.2.1 54 = .ok (.iconst 1, 1) := by decide +kernel
theorem dd_X4_isArrangement_55 : decode Y_X4_isArrangement.2.1 55 = .ok (.iload_n 2, 1) := by decide +kernel
theorem dd_X4_isArrangement_56 : decode Y_X4_isArrangement.2.1 56 = .ok (.ishl, 1) := by decide +kernel
theorem dd_X4_isArrangement_57 : decode Y_X4_isArrangement.2.1 57 = .ok (.iconst 1, 1) := by decide +kernel
theorem dd_X4_isArrangement_58 : decode Y_X4_isArrangement.2.1 58 = .ok (.isub, 1) := by decide +kernel
theorem dd_X4_isArrangement_59 : decode Y_X4_isArrangement.2.1 59 = .ok (.if_icmp .ne 7, 3) := by decide +kernel
theorem dd_X4_isArrangement_62 : decode Y_X4_isArrangement.2.1 62 = .ok (.iconst 1, 1) := by decide +kernel
theorem dd_X4_isArrangement_63 : decode Y_X4_isArrangement.2.1 63 = .ok (.goto 4, 3) := by decide +kernel
theorem dd_X4_isArrangement_66 : decode Y_X4_isArrangement.2.1 66 = .ok (.iconst 0, 1) := by decide +kernel
theorem dd_X4_isArrangement_67 : decode Y_X4_isArrangement.2.1 67 = .ok (.ireturn, 1) := by decide +kernel
def F_X4_isArrangement_L30 (x1 : Int32) (x2 : Int32) (K53 : Int32 → zM → zO) : Nat → Int32 → Int32 → zM → zO
  | 0, _, _, _ => none
  | n + 1, x3, x4, M => zit (x2 ≤ x4) (K53 x3 M) (zbI (F_X4_figure x1 x4 M) (fun r1 M1 => zlt (x3 ||| ((1 : Int32) <<< (r1 &&& 31))) (fun v2 => F_X4_isArrangement_L30 x1 x2 K53 n v2 (x4 + 1) M1)))
def F_X4_isArrangement (t : Nat) (a1 : Int32) (M : zM) : zO := zlt (M (zgr (zgr t 0) 0) 0) (fun v1 => zjo (fun  (M4 : zM) => zck (zbo 0) (zI 0 M4)) (fun (k1 : zM → zO) => zit (a1 < 0) (k1 M) (zit ((a1 >>> ((3 * v1) &&& 31)) = 0) (F_X4_isArrangement_L30 a1 v1 (fun (y1 : Int32) (M2 : zM) => zjo (fun (w1 : Int32) (M3 : zM) => zck (zbo w1) (zI w1 M3)) (fun (k2 : Int32 → zM → zO) => zit (y1 = (((1 : Int32) <<< (v1 &&& 31)) - 1)) (k2 1 M2) (k2 0 M2))) zN 0 0 M) (k1 M))))
set_option maxHeartbeats 1000000 in
set_option maxRecDepth 20000 in
theorem ct_X4_isArrangement_L30 (l : Launch) (hl : l.stackTraces = false) (G : zG) (x1 : Int32) (x2 : Int32) (K53 : Int32 → zM → zO) (hK53 : ∀ (x3 : Int32) (M : zM), zEv l G Y_X4_isArrangement 2 0 53 [(2, .int x2), (3, .int x3)] [] M (K53 x3 M)) : ∀ (n : Nat) (x3 : Int32) (x4 : Int32) (M : zM), zEv l G Y_X4_isArrangement 2 0 30 [(1, .int x1), (2, .int x2), (3, .int x3), (4, .int x4)] [] M (F_X4_isArrangement_L30 x1 x2 K53 n x3 x4 M) := by
  intro n
  induction n with
  | zero => intro x3 x4 M; exact ev_none
  | succ n ih =>
    intro x3 x4 M
    show zEv l G Y_X4_isArrangement 2 0 30 [(1, .int x1), (2, .int x2), (3, .int x3), (4, .int x4)] [] M (zit (x2 ≤ x4) (K53 x3 M) (zbI (F_X4_figure x1 x4 M) (fun r1 M1 => zlt (x3 ||| ((1 : Int32) <<< (r1 &&& 31))) (fun v2 => F_X4_isArrangement_L30 x1 x2 K53 n v2 (x4 + 1) M1))))
    refine ev_iload dd_X4_isArrangement_30 3 rfl ?_
    refine ev_iload_n dd_X4_isArrangement_32 1 rfl ?_
    refine ev_icmp_ge 53 dd_X4_isArrangement_33 (by decide) ?_ ?_
    · refine ev_lv (lv' := [(2, .int x2), (3, .int x3)]) [1, 2] rfl ?_
      exact hK53 _ _
    · refine ev_iload_n dd_X4_isArrangement_36 2 rfl ?_
      refine ev_lv (lv' := [(1, .int x1), (2, .int x2), (4, .int x4)]) [0, 1, 3] rfl ?_
      refine ev_iconst (v := 1) dd_X4_isArrangement_37 (by decide) ?_
      refine ev_iload_n dd_X4_isArrangement_38 0 rfl ?_
      refine ev_iload dd_X4_isArrangement_39 2 rfl ?_
      refine ev_callSI (As := [.int x1, .int x4]) cl_RX4_47 (ct_X4_figure l hl G x1 x4 M) dd_X4_isArrangement_41 (by decide) (Nat.le_of_ble_eq_true rfl) (Nat.le_of_ble_eq_true rfl) rfl rfl (fun r1 M1 => ?_)
      refine ev_ishl dd_X4_isArrangement_44 ?_
      refine ev_ior dd_X4_isArrangement_45 ?_
      refine ev_topi (fun v2 => ?_)
      refine ev_istore_n (i := 3) (lv' := [(1, .int x1), (2, .int x2), (3, .int v2), (4, .int x4)]) [1, 2, 0, 3] dd_X4_isArrangement_46 rfl (by decide) rfl ?_
      refine ev_iinc (j := 3) (v := 1) (lv' := [(1, .int x1), (2, .int x2), (3, .int v2), (4, .int (x4 + 1))]) [1, 2, 3, 0] dd_X4_isArrangement_47 rfl (by decide) (by decide) rfl ?_
      refine ev_goto 30 dd_X4_isArrangement_50 (by decide) ?_
      exact ih _ _ _
set_option maxHeartbeats 1000000 in
set_option maxRecDepth 20000 in
theorem ct_X4_isArrangement (l : Launch) (hl : l.stackTraces = false) (G : zG) (t : Nat) (ht : zsh t = 4) (a1 : Int32) (M : zM) : zMt l G Y_X4_isArrangement 2 [.ref (G.2.1 + t), .int a1] M (F_X4_isArrangement t a1 M) := by
  refine zMt_of (by decide +kernel) (Nat.le_of_ble_eq_true rfl) ?_
  show zEv l G Y_X4_isArrangement 2 0 0 [(0, .ref (G.2.1 + t)), (1, .int a1)] [] M (zlt (M (zgr (zgr t 0) 0) 0) (fun v1 => zjo (fun  (M4 : zM) => zck (zbo 0) (zI 0 M4)) (fun (k1 : zM → zO) => zit (a1 < 0) (k1 M) (zit ((a1 >>> ((3 * v1) &&& 31)) = 0) (F_X4_isArrangement_L30 a1 v1 (fun (y1 : Int32) (M2 : zM) => zjo (fun (w1 : Int32) (M3 : zM) => zck (zbo w1) (zI w1 M3)) (fun (k2 : Int32 → zM → zO) => zit (y1 = (((1 : Int32) <<< (v1 &&& 31)) - 1)) (k2 1 M2) (k2 0 M2))) zN 0 0 M) (k1 M)))))
  refine ev_aload_n dd_X4_isArrangement_0 0 rfl ?_
  refine ev_lv (lv' := [(1, .int a1)]) [1] rfl ?_
  refine ev_getR gf_RX4_28 dd_X4_isArrangement_1 ht (by decide) ?_
  refine ev_getR gf_RX4_36 dd_X4_isArrangement_4 (zg_4_0 ht) (by decide) ?_
  refine ev_getI gf_RX4_42 dd_X4_isArrangement_7 (zg_10_0 (zg_4_0 ht)) (by decide) ?_
  refine ev_topi (fun v1 => ?_)
  refine ev_istore_n (i := 2) (lv' := [(1, .int a1), (2, .int v1)]) [1, 0] dd_X4_isArrangement_10 rfl (by decide) rfl ?_
  refine ev_iload_n dd_X4_isArrangement_11 0 rfl ?_
  refine ev_jo (fun (k1 : zM → zO) => ∀  (M4 : zM), zEv l G Y_X4_isArrangement 2 0 23 [] [] M4 (k1 M4)) ?_ (fun k1 hk1 => ?_)
  · intro M4
    refine ev_iconst (v := 0) dd_X4_isArrangement_23 (by decide) ?_
    exact ev_zret dd_X4_isArrangement_24 rfl (Nat.le_of_ble_eq_true rfl) rfl
  · refine ev_if_lt 23 dd_X4_isArrangement_12 (by decide) ?_ ?_
    · refine ev_lv (lv' := []) [] rfl ?_
      exact hk1 _
    · refine ev_iload_n dd_X4_isArrangement_15 0 rfl ?_
      refine ev_iconst (v := 3) dd_X4_isArrangement_16 (by decide) ?_
      refine ev_iload_n dd_X4_isArrangement_17 1 rfl ?_
      refine ev_imul dd_X4_isArrangement_18 ?_
      refine ev_ishr dd_X4_isArrangement_19 ?_
      refine ev_if_eq 25 dd_X4_isArrangement_20 (by decide) ?_ ?_
      · refine ev_iconst (v := 0) dd_X4_isArrangement_25 (by decide) ?_
        refine ev_istore_n (i := 3) (lv' := [(1, .int a1), (2, .int v1), (3, .int 0)]) [1, 2, 0] dd_X4_isArrangement_26 rfl (by decide) rfl ?_
        refine ev_iconst (v := 0) dd_X4_isArrangement_27 (by decide) ?_
        refine ev_istore (i := 4) (lv' := [(1, .int a1), (2, .int v1), (3, .int 0), (4, .int 0)]) [1, 2, 3, 0] dd_X4_isArrangement_28 (by decide) rfl ?_
        refine ct_X4_isArrangement_L30 l hl G a1 v1 _ (fun y1 M2 => ?_) zN _ _ _
        refine ev_iload_n dd_X4_isArrangement_53 1 rfl ?_
        refine ev_lv (lv' := [(2, .int v1)]) [0] rfl ?_
        refine ev_iconst (v := 1) dd_X4_isArrangement_54 (by decide) ?_
        refine ev_iload_n dd_X4_isArrangement_55 0 rfl ?_
        refine ev_lv (lv' := []) [] rfl ?_
        refine ev_ishl dd_X4_isArrangement_56 ?_
        refine ev_iconst (v := 1) dd_X4_isArrangement_57 (by decide) ?_
        refine ev_isub dd_X4_isArrangement_58 ?_
        refine ev_jo (fun (k2 : Int32 → zM → zO) => ∀ (w1 : Int32) (M3 : zM), zEv l G Y_X4_isArrangement 2 0 67 [] [.int w1] M3 (k2 w1 M3)) ?_ (fun k2 hk2 => ?_)
        · intro w1 M3
          exact ev_zret dd_X4_isArrangement_67 rfl (Nat.le_of_ble_eq_true rfl) rfl
        · refine ev_icmp_ne 66 dd_X4_isArrangement_59 (by decide) ?_ ?_
          · refine ev_iconst (v := 0) dd_X4_isArrangement_66 (by decide) ?_
            exact hk2 _ _
          · refine ev_iconst (v := 1) dd_X4_isArrangement_62 (by decide) ?_
            refine ev_goto 67 dd_X4_isArrangement_63 (by decide) ?_
            exact hk2 _ _
      · refine ev_lv (lv' := []) [] rfl ?_
        exact hk1 _
/-! X11_swaps -/
theorem dd_X11_swaps_0 : decode Y_X11_swaps.2.1 0 = .ok (.iload_n 2, 1) := by decide +kernel
theorem dd_X11_swaps_1 : decode Y_X11_swaps.2.1 1 = .ok (.ifCond .lt 8, 3) := by decide +kernel
theorem dd_X11_swaps_4 : decode Y_X11_swaps.2.1 4 = .ok (.iload_n 2, 1) := by decide +kernel
theorem dd_X11_swaps_5 : decode Y_X11_swaps.2.1 5 = .ok (.iconst 2, 1) := by decide +kernel
theorem dd_X11_swaps_6 : decode Y_X11_swaps.2.1 6 = .ok (.if_icmp .le 14, 3) := by decide +kernel
theorem dd_X11_swaps_9 : decode Y_X11_swaps.2.1 9 = .ok (.new 164, 3) := by decide +kernel
theorem dd_X11_swaps_12 : decode Y_X11_swaps.2.1 12 = .ok (.dup, 1) := by decide +kernel
theorem dd_X11_swaps_13 : decode Y_X11_swaps.2.1 13 = .ok (.ldc_w 269, 3) := by decide +kernel
theorem dd_X11_swaps_16 : decode Y_X11_swaps.2.1 16 = .ok (.invokespecial 168, 3) := by decide +kernel
theorem dd_X11_swaps_19 : decode Y_X11_swaps.2.1 19 = .ok (.athrow, 1) := by decide +kernel
theorem dd_X11_swaps_20 : decode Y_X11_swaps.2.1 20 = .ok (.aload_n 0, 1) := by decide +kernel
theorem dd_X11_swaps_21 : decode Y_X11_swaps.2.1 21 = .ok (.getfield 83, 3) := by decide +kernel
theorem dd_X11_swaps_24 : decode Y_X11_swaps.2.1 24 = .ok (.iload_n 1, 1) := by decide +kernel
theorem dd_X11_swaps_25 : decode Y_X11_swaps.2.1 25 = .ok (.invokevirtual 271, 3) := by decide +kernel
theorem dd_X11_swaps_28 : decode Y_X11_swaps.2.1 28 = .ok (.ifCond .ne 14, 3) := by decide +kernel
theorem dd_X11_swaps_31 : decode Y_X11_swaps.2.1 31 = .ok (.new 119, 3) := by decide +kernel
theorem dd_X11_swaps_34 : decode Y_X11_swaps.2.1 34 = .ok (.dup, 1) := by decide +kernel
theorem dd_X11_swaps_35 : decode Y_X11_swaps.2.1 35 = .ok (.ldc_w 274, 3) := by decide +kernel
theorem dd_X11_swaps_38 : decode Y_X11_swaps.2.1 38 = .ok (.invokespecial 123, 3) := by decide +kernel
theorem dd_X11_swaps_41 : decode Y_X11_swaps.2.1 41 = .ok (.athrow, 1) := by decide +kernel
theorem dd_X11_swaps_42 : decode Y_X11_swaps.2.1 42 = .ok (.iload_n 2, 1) := by decide +kernel
theorem dd_X11_swaps_43 : decode Y_X11_swaps.2.1 43 = .ok (.iconst 2, 1) := by decide +kernel
theorem dd_X11_swaps_44 : decode Y_X11_swaps.2.1 44 = .ok (.if_icmp .ne 12, 3) := by decide +kernel
theorem dd_X11_swaps_47 : decode Y_X11_swaps.2.1 47 = .ok (.aload_n 0, 1) := by decide +kernel
theorem dd_X11_swaps_48 : decode Y_X11_swaps.2.1 48 = .ok (.getfield 83, 3) := by decide +kernel
theorem dd_X11_swaps_51 : decode Y_X11_swaps.2.1 51 = .ok (.iload_n 1, 1) := by decide +kernel
theorem dd_X11_swaps_52 : decode Y_X11_swaps.2.1 52 = .ok (.invokevirtual 276, 3) := by decide +kernel
theorem dd_X11_swaps_55 : decode Y_X11_swaps.2.1 55 = .ok (.ireturn, 1) := by decide +kernel
theorem dd_X11_swaps_56 : decode Y_X11_swaps.2.1 56 = .ok (.aload_n 0, 1) := by decide +kernel
theorem dd_X11_swaps_57 : decode Y_X11_swaps.2.1 57 = .ok (.getfield 19, 3) := by decide +kernel
theorem dd_X11_swaps_60 : decode Y_X11_swaps.2.1 60 = .ok (.getfield 142, 3) := by decide +kernel
theorem dd_X11_swaps_63 : decode Y_X11_swaps.2.1 63 = .ok (.bipush 6, 2) := by decide +kernel
theorem dd_X11_swaps_65 : decode Y_X11_swaps.2.1 65 = .ok (.if_icmp .le 6, 3) := by decide +kernel
theorem dd_X11_swaps_68 : decode Y_X11_swaps.2.1 68 = .ok (.bipush (-2), 2) := by decide +kernel
theorem dd_X11_swaps_70 : decode Y_X11_swaps.2.1 70 = .ok (.ireturn, 1) := by decide +kernel
theorem dd_X11_swaps_71 : decode Y_X11_swaps.2.1 71 = .ok (.aload_n 0, 1) := by decide +kernel
theorem dd_X11_swaps_72 : decode Y_X11_swaps.2.1 72 = .ok (.getfield 83, 3) := by decide +kernel
theorem dd_X11_swaps_75 : decode Y_X11_swaps.2.1 75 = .ok (.aload_n 0, 1) := by decide +kernel
theorem dd_X11_swaps_76 : decode Y_X11_swaps.2.1 76 = .ok (.getfield 104, 3) := by decide +kernel
theorem dd_X11_swaps_79 : decode Y_X11_swaps.2.1 79 = .ok (.invokevirtual 279, 3) := by decide +kernel
theorem dd_X11_swaps_82 : decode Y_X11_swaps.2.1 82 = .ok (.iload_n 2, 1) := by decide +kernel
theorem dd_X11_swaps_83 : decode Y_X11_swaps.2.1 83 = .ok (.ifCond .ne 14, 3) := by decide +kernel
theorem dd_X11_swaps_86 : decode Y_X11_swaps.2.1 86 = .ok (.aload_n 0, 1) := by decide +kernel
theorem dd_X11_swaps_87 : decode Y_X11_swaps.2.1 87 = .ok (.getfield 83, 3) := by decide +kernel
theorem dd_X11_swaps_90 : decode Y_X11_swaps.2.1 90 = .ok (.iload_n 1, 1) := by decide +kernel
theorem dd_X11_swaps_91 : decode Y_X11_swaps.2.1 91 = .ok (.invokevirtual 282, 3) := by decide +kernel
theorem dd_X11_swaps_94 : decode Y_X11_swaps.2.1 94 = .ok (.goto 11, 3) := by decide +kernel
theorem dd_X11_swaps_97 : decode Y_X11_swaps.2.1 97 = .ok (.aload_n 0, 1) := by decide +kernel
theorem dd_X11_swaps_98 : decode Y_X11_swaps.2.1 98 = .ok (.getfield 83, 3) := by decide +kernel
theorem dd_X11_swaps_101 : decode Y_X11_swaps.2.1 101 = .ok (.iload_n 1, 1) := by decide +kernel
theorem dd_X11_swaps_102 : decode Y_X11_swaps.2.1 102 = .ok (.invokevirtual 285, 3) := by decide +kernel
theorem dd_X11_swaps_105 : decode Y_X11_swaps.2.1 105 = .ok (.ireturn, 1) := by decide +kernel
def F_X11_swaps (t : Nat) (a1 : Int32) (a2 : Int32) (M : zM) : zO := zjo (fun  (M7 : zM) => zE "java/util/NoSuchElementException" M7) (fun (k1 : zM → zO) => zit (a2 < 0) (k1 M) (zit (a2 ≤ 2) (zbI (F_X4_isArrangement (zgr t 11) a1 M) (fun r1 M1 => zit (r1 = 0) (zE "java/lang/IllegalArgumentException" M1) (zit (a2 = 2) (zbI (F_X4_fewestOfItself (zgr t 11) a1 M1) (fun r4 M6 => zI r4 M6)) (zit ((M1 (zgr t 1) 0) ≤ 6) (zbV (F_X4_find (zgr t 11) (M1 t 15) M1) (fun M2 => zjo (fun (w1 : Int32) (M5 : zM) => zI w1 M5) (fun (k2 : Int32 → zM → zO) => zit (a2 = 0) (zbI (F_X4_fewest (zgr t 11) a1 M2) (fun r3 M4 => k2 r3 M4)) (zbI (F_X4_firstSwap (zgr t 11) a1 M2) (fun r2 M3 => k2 r2 M3))))) (zI (-2) M1))))) (k1 M)))
set_option maxHeartbeats 1000000 in
set_option maxRecDepth 20000 in
theorem ct_X11_swaps (l : Launch) (hl : l.stackTraces = false) (G : zG) (t : Nat) (ht : zsh t = 11) (a1 : Int32) (a2 : Int32) (M : zM) : zMt l G Y_X11_swaps 14 [.ref (G.2.1 + t), .int a1, .int a2] M (F_X11_swaps t a1 a2 M) := by
  refine zMt_of (by decide +kernel) (Nat.le_of_ble_eq_true rfl) ?_
  show zEv l G Y_X11_swaps 14 0 0 [(0, .ref (G.2.1 + t)), (1, .int a1), (2, .int a2)] [] M (zjo (fun  (M7 : zM) => zE "java/util/NoSuchElementException" M7) (fun (k1 : zM → zO) => zit (a2 < 0) (k1 M) (zit (a2 ≤ 2) (zbI (F_X4_isArrangement (zgr t 11) a1 M) (fun r1 M1 => zit (r1 = 0) (zE "java/lang/IllegalArgumentException" M1) (zit (a2 = 2) (zbI (F_X4_fewestOfItself (zgr t 11) a1 M1) (fun r4 M6 => zI r4 M6)) (zit ((M1 (zgr t 1) 0) ≤ 6) (zbV (F_X4_find (zgr t 11) (M1 t 15) M1) (fun M2 => zjo (fun (w1 : Int32) (M5 : zM) => zI w1 M5) (fun (k2 : Int32 → zM → zO) => zit (a2 = 0) (zbI (F_X4_fewest (zgr t 11) a1 M2) (fun r3 M4 => k2 r3 M4)) (zbI (F_X4_firstSwap (zgr t 11) a1 M2) (fun r2 M3 => k2 r2 M3))))) (zI (-2) M1))))) (k1 M))))
  refine ev_iload_n dd_X11_swaps_0 2 rfl ?_
  refine ev_jo (fun (k1 : zM → zO) => ∀  (M7 : zM), zEv l G Y_X11_swaps 14 0 9 [] [] M7 (k1 M7)) ?_ (fun k1 hk1 => ?_)
  · intro M7
    exact ev_throwNW hl zTh_NSE sr_RX11_269 dd_X11_swaps_9 dd_X11_swaps_12 dd_X11_swaps_13 dd_X11_swaps_16 dd_X11_swaps_19 (Nat.le_of_ble_eq_true rfl) (Nat.le_of_ble_eq_true rfl)
  · refine ev_if_lt 9 dd_X11_swaps_1 (by decide) ?_ ?_
    · refine ev_lv (lv' := []) [] rfl ?_
      exact hk1 _
    · refine ev_iload_n dd_X11_swaps_4 2 rfl ?_
      refine ev_iconst (v := 2) dd_X11_swaps_5 (by decide) ?_
      refine ev_icmp_le 20 dd_X11_swaps_6 (by decide) ?_ ?_
      · refine ev_aload_n dd_X11_swaps_20 0 rfl ?_
        refine ev_getR gf_RX11_83 dd_X11_swaps_21 ht (by decide) ?_
        refine ev_iload_n dd_X11_swaps_24 1 rfl ?_
        refine ev_callVI (As := [.int a1]) cl_RX11_271 (ct_X4_isArrangement l hl G (zgr t 11) (zg_11_11 ht) a1 M) dd_X11_swaps_25 (zg_11_11 ht) (by decide) (Nat.le_of_ble_eq_true rfl) (Nat.le_of_ble_eq_true rfl) rfl rfl (fun r1 M1 => ?_)
        refine ev_if_ne 42 dd_X11_swaps_28 (by decide) ?_ ?_
        · refine ev_iload_n dd_X11_swaps_42 2 rfl ?_
          refine ev_iconst (v := 2) dd_X11_swaps_43 (by decide) ?_
          refine ev_icmp_ne 56 dd_X11_swaps_44 (by decide) ?_ ?_
          · refine ev_aload_n dd_X11_swaps_56 0 rfl ?_
            refine ev_getR gf_RX11_19 dd_X11_swaps_57 ht (by decide) ?_
            refine ev_getI gf_RX11_142 dd_X11_swaps_60 (zg_11_1 ht) (by decide) ?_
            refine ev_bipush (v := 6) dd_X11_swaps_63 (by decide) ?_
            refine ev_icmp_le 71 dd_X11_swaps_65 (by decide) ?_ ?_
            · refine ev_aload_n dd_X11_swaps_71 0 rfl ?_
              refine ev_getR gf_RX11_83 dd_X11_swaps_72 ht (by decide) ?_
              refine ev_aload_n dd_X11_swaps_75 0 rfl ?_
              refine ev_getI gf_RX11_104 dd_X11_swaps_76 ht (by decide) ?_
              refine ev_callVV (As := [.int (M1 t 15)]) cl_RX11_279 (ct_X4_find l hl G (zgr t 11) (zg_11_11 ht) (M1 t 15) M1) dd_X11_swaps_79 (zg_11_11 ht) (by decide) (Nat.le_of_ble_eq_true rfl) (Nat.le_of_ble_eq_true rfl) rfl rfl (fun M2 => ?_)
              refine ev_iload_n dd_X11_swaps_82 2 rfl ?_
              refine ev_lv (lv' := [(0, .ref (G.2.1 + t)), (1, .int a1)]) [0, 1] rfl ?_
              refine ev_jo (fun (k2 : Int32 → zM → zO) => ∀ (w1 : Int32) (M5 : zM), zEv l G Y_X11_swaps 14 0 105 [] [.int w1] M5 (k2 w1 M5)) ?_ (fun k2 hk2 => ?_)
              · intro w1 M5
                exact ev_iret dd_X11_swaps_105 rfl (Nat.le_of_ble_eq_true rfl) rfl
              · refine ev_if_ne 97 dd_X11_swaps_83 (by decide) ?_ ?_
                · refine ev_aload_n dd_X11_swaps_97 0 rfl ?_
                  refine ev_lv (lv' := [(1, .int a1)]) [1] rfl ?_
                  refine ev_getR gf_RX11_83 dd_X11_swaps_98 ht (by decide) ?_
                  refine ev_iload_n dd_X11_swaps_101 0 rfl ?_
                  refine ev_lv (lv' := []) [] rfl ?_
                  refine ev_callVI (As := [.int a1]) cl_RX11_285 (ct_X4_firstSwap l hl G (zgr t 11) (zg_11_11 ht) a1 M2) dd_X11_swaps_102 (zg_11_11 ht) (by decide) (Nat.le_of_ble_eq_true rfl) (Nat.le_of_ble_eq_true rfl) rfl rfl (fun r2 M3 => ?_)
                  exact hk2 _ _
                · refine ev_aload_n dd_X11_swaps_86 0 rfl ?_
                  refine ev_lv (lv' := [(1, .int a1)]) [1] rfl ?_
                  refine ev_getR gf_RX11_83 dd_X11_swaps_87 ht (by decide) ?_
                  refine ev_iload_n dd_X11_swaps_90 0 rfl ?_
                  refine ev_lv (lv' := []) [] rfl ?_
                  refine ev_callVI (As := [.int a1]) cl_RX11_282 (ct_X4_fewest l hl G (zgr t 11) (zg_11_11 ht) a1 M2) dd_X11_swaps_91 (zg_11_11 ht) (by decide) (Nat.le_of_ble_eq_true rfl) (Nat.le_of_ble_eq_true rfl) rfl rfl (fun r3 M4 => ?_)
                  refine ev_goto 105 dd_X11_swaps_94 (by decide) ?_
                  exact hk2 _ _
            · refine ev_lv (lv' := []) [] rfl ?_
              refine ev_bipush (v := (-2)) dd_X11_swaps_68 (by decide) ?_
              exact ev_iret dd_X11_swaps_70 rfl (Nat.le_of_ble_eq_true rfl) rfl
          · refine ev_lv (lv' := [(0, .ref (G.2.1 + t)), (1, .int a1)]) [0, 1] rfl ?_
            refine ev_aload_n dd_X11_swaps_47 0 rfl ?_
            refine ev_lv (lv' := [(1, .int a1)]) [1] rfl ?_
            refine ev_getR gf_RX11_83 dd_X11_swaps_48 ht (by decide) ?_
            refine ev_iload_n dd_X11_swaps_51 0 rfl ?_
            refine ev_lv (lv' := []) [] rfl ?_
            refine ev_callVI (As := [.int a1]) cl_RX11_276 (ct_X4_fewestOfItself l hl G (zgr t 11) (zg_11_11 ht) a1 M1) dd_X11_swaps_52 (zg_11_11 ht) (by decide) (Nat.le_of_ble_eq_true rfl) (Nat.le_of_ble_eq_true rfl) rfl rfl (fun r4 M6 => ?_)
            exact ev_iret dd_X11_swaps_55 rfl (Nat.le_of_ble_eq_true rfl) rfl
        · refine ev_lv (lv' := []) [] rfl ?_
          exact ev_throwSW hl zTh_IAE sr_RX11_274 dd_X11_swaps_31 dd_X11_swaps_34 dd_X11_swaps_35 dd_X11_swaps_38 dd_X11_swaps_41 (Nat.le_of_ble_eq_true rfl) (Nat.le_of_ble_eq_true rfl)
      · refine ev_lv (lv' := []) [] rfl ?_
        exact hk1 _
/-! X11_tide -/
theorem dd_X11_tide_0 : decode Y_X11_tide.2.1 0 = .ok (.iload_n 1, 1) := by decide +kernel
theorem dd_X11_tide_1 : decode Y_X11_tide.2.1 1 = .ok (.bipush 9, 2) := by decide +kernel
theorem dd_X11_tide_3 : decode Y_X11_tide.2.1 3 = .ok (.invokestatic 323, 3) := by decide +kernel
theorem dd_X11_tide_6 : decode Y_X11_tide.2.1 6 = .ok (.iconst 0, 1) := by decide +kernel
theorem dd_X11_tide_7 : decode Y_X11_tide.2.1 7 = .ok (.istore_n 2, 1) := by decide +kernel
theorem dd_X11_tide_8 : decode Y_X11_tide.2.1 8 = .ok (.iconst 0, 1) := by decide +kernel
theorem dd_X11_tide_9 : decode Y_X11_tide.2.1 9 = .ok (.istore_n 3, 1) := by decide +kernel
theorem dd_X11_tide_10 : decode Y_X11_tide.2.1 10 = .ok (.iload_n 3, 1) := by decide +kernel
theorem dd_X11_tide_11 : decode Y_X11_tide.2.1 11 = .ok (.aload_n 0, 1) := by decide +kernel
theorem dd_X11_tide_12 : decode Y_X11_tide.2.1 12 = .ok (.getfield 19, 3) := by decide +kernel
theorem dd_X11_tide_15 : decode Y_X11_tide.2.1 15 = .ok (.getfield 142, 3) := by decide +kernel
theorem dd_X11_tide_18 : decode Y_X11_tide.2.1 18 = .ok (.if_icmp .ge 49, 3) := by decide +kernel
theorem dd_X11_tide_21 : decode Y_X11_tide.2.1 21 = .ok (.iload_n 3, 1) := by decide +kernel
theorem dd_X11_tide_22 : decode Y_X11_tide.2.1 22 = .ok (.iconst 1, 1) := by decide +kernel
theorem dd_X11_tide_23 : decode Y_X11_tide.2.1 23 = .ok (.iadd, 1) := by decide +kernel
theorem dd_X11_tide_24 : decode Y_X11_tide.2.1 24 = .ok (.istore 4, 2) := by decide +kernel
theorem dd_X11_tide_26 : decode Y_X11_tide.2.1 26 = .ok (.iload 4, 2) := by decide +kernel
theorem dd_X11_tide_28 : decode Y_X11_tide.2.1 28 = .ok (.aload_n 0, 1) := by decide +kernel
theorem dd_X11_tide_29 : decode Y_X11_tide.2.1 29 = .ok (.getfield 19, 3) := by decide +kernel
theorem dd_X11_tide_32 : decode Y_X11_tide.2.1 32 = .ok (.getfield 142, 3) := by decide +kernel
theorem dd_X11_tide_35 : decode Y_X11_tide.2.1 35 = .ok (.if_icmp .ge 26, 3) := by decide +kernel
theorem dd_X11_tide_38 : decode Y_X11_tide.2.1 38 = .ok (.aload_n 0, 1) := by decide +kernel
theorem dd_X11_tide_39 : decode Y_X11_tide.2.1 39 = .ok (.getfield 40, 3) := by decide +kernel
theorem dd_X11_tide_42 : decode Y_X11_tide.2.1 42 = .ok (.iload_n 3, 1) := by decide +kernel
theorem dd_X11_tide_43 : decode Y_X11_tide.2.1 43 = .ok (.iload 4, 2) := by decide +kernel
theorem dd_X11_tide_45 : decode Y_X11_tide.2.1 45 = .ok (.iload_n 1, 1) := by decide +kernel
theorem dd_X11_tide_46 : decode Y_X11_tide.2.1 46 = .ok (.invokevirtual 332, 3) := by decide +kernel
theorem dd_X11_tide_49 : decode Y_X11_tide.2.1 49 = .ok (.ifCond .eq 6, 3) := by decide +kernel
theorem dd_X11_tide_52 : decode Y_X11_tide.2.1 52 = .ok (.iinc 2 1, 3) := by decide +kernel
theorem dd_X11_tide_55 : decode Y_X11_tide.2.1 55 = .ok (.iinc 4 1, 3) := by decide +kernel
theorem dd_X11_tide_58 : decode Y_X11_tide.2.1 58 = .ok (.goto (-32), 3) := by decide +kernel
theorem dd_X11_tide_61 : decode Y_X11_tide.2.1 61 = .ok (.iinc 3 1, 3) := by decide +kernel
theorem dd_X11_tide_64 : decode Y_X11_tide.2.1 64 = .ok (.goto (-54), 3) := by decide +kernel
theorem dd_X11_tide_67 : decode Y_X11_tide.2.1 67 = .ok (.iload_n 2, 1) := by decide +kernel
theorem dd_X11_tide_68 : decode Y_X11_tide.2.1 68 = .ok (.ireturn, 1) := by decide +kernel
def F_X11_tide_L26 (x0 : Nat) (x1 : Int32) (x3 : Int32) (K61 : Int32 → zM → zO) : Nat → Int32 → Int32 → zM → zO
  | 0, _, _, _ => none
  | n + 1, x2, x4, M => zit ((M (zgr x0 1) 0) ≤ x4) (K61 x2 M) (zbI (F_X10_lieOnEachOther (zgr x0 4) x3 x4 x1 M) (fun r1 M2 => zjo (fun (w1 : Int32) (M3 : zM) => F_X11_tide_L26 x0 x1 x3 K61 n w1 (x4 + 1) M3) (fun (k1 : Int32 → zM → zO) => zit (r1 = 0) (k1 x2 M2) (k1 (x2 + 1) M2))))
def F_X11_tide_L10 (x0 : Nat) (x1 : Int32) (K67 : Int32 → zM → zO) : Nat → Int32 → Int32 → zM → zO
  | 0, _, _, _ => none
  | n + 1, x2, x3, M => zit ((M (zgr x0 1) 0) ≤ x3) (K67 x2 M) (zlt (x3 + 1) (fun v1 => F_X11_tide_L26 x0 x1 x3 (fun (y1 : Int32) (M4 : zM) => F_X11_tide_L10 x0 x1 K67 n y1 (x3 + 1) M4) zN x2 v1 M))
def F_X11_tide (t : Nat) (a1 : Int32) (M : zM) : zO := zbV (F_X11_needAmount a1 9 M) (fun M1 => F_X11_tide_L10 t a1 (fun (y2 : Int32) (M5 : zM) => zI y2 M5) zN 0 0 M1)
set_option maxHeartbeats 1000000 in
set_option maxRecDepth 20000 in
theorem ct_X11_tide_L26 (l : Launch) (hl : l.stackTraces = false) (G : zG) (x0 : Nat) (hx0 : zsh x0 = 11) (x1 : Int32) (x3 : Int32) (K61 : Int32 → zM → zO) (hK61 : ∀ (x2 : Int32) (M : zM), zEv l G Y_X11_tide 9 1 61 [(0, .ref (G.2.1 + x0)), (1, .int x1), (2, .int x2), (3, .int x3)] [] M (K61 x2 M)) : ∀ (n : Nat) (x2 : Int32) (x4 : Int32) (M : zM), zEv l G Y_X11_tide 9 1 26 [(0, .ref (G.2.1 + x0)), (1, .int x1), (2, .int x2), (3, .int x3), (4, .int x4)] [] M (F_X11_tide_L26 x0 x1 x3 K61 n x2 x4 M) := by
  intro n
  induction n with
  | zero => intro x2 x4 M; exact ev_none
  | succ n ih =>
    intro x2 x4 M
    show zEv l G Y_X11_tide 9 1 26 [(0, .ref (G.2.1 + x0)), (1, .int x1), (2, .int x2), (3, .int x3), (4, .int x4)] [] M (zit ((M (zgr x0 1) 0) ≤ x4) (K61 x2 M) (zbI (F_X10_lieOnEachOther (zgr x0 4) x3 x4 x1 M) (fun r1 M2 => zjo (fun (w1 : Int32) (M3 : zM) => F_X11_tide_L26 x0 x1 x3 K61 n w1 (x4 + 1) M3) (fun (k1 : Int32 → zM → zO) => zit (r1 = 0) (k1 x2 M2) (k1 (x2 + 1) M2)))))
    refine ev_iload dd_X11_tide_26 4 rfl ?_
    refine ev_aload_n dd_X11_tide_28 0 rfl ?_
    refine ev_getR gf_RX11_19 dd_X11_tide_29 hx0 (by decide) ?_
    refine ev_getI gf_RX11_142 dd_X11_tide_32 (zg_11_1 hx0) (by decide) ?_
    refine ev_icmp_ge 61 dd_X11_tide_35 (by decide) ?_ ?_
    · refine ev_lv (lv' := [(0, .ref (G.2.1 + x0)), (1, .int x1), (2, .int x2), (3, .int x3)]) [0, 1, 2, 3] rfl ?_
      exact hK61 _ _
    · refine ev_aload_n dd_X11_tide_38 0 rfl ?_
      refine ev_getR gf_RX11_40 dd_X11_tide_39 hx0 (by decide) ?_
      refine ev_iload_n dd_X11_tide_42 3 rfl ?_
      refine ev_iload dd_X11_tide_43 4 rfl ?_
      refine ev_iload_n dd_X11_tide_45 1 rfl ?_
      refine ev_callVI (As := [.int x3, .int x4, .int x1]) cl_RX11_332 (ct_X10_lieOnEachOther l hl G (zgr x0 4) (zg_11_4 hx0) x3 x4 x1 M) dd_X11_tide_46 (zg_11_4 hx0) (by decide) (Nat.le_of_ble_eq_true rfl) (Nat.le_of_ble_eq_true rfl) rfl rfl (fun r1 M2 => ?_)
      refine ev_jo (fun (k1 : Int32 → zM → zO) => ∀ (w1 : Int32) (M3 : zM), zEv l G Y_X11_tide 9 1 55 [(0, .ref (G.2.1 + x0)), (1, .int x1), (2, .int w1), (3, .int x3), (4, .int x4)] [] M3 (k1 w1 M3)) ?_ (fun k1 hk1 => ?_)
      · intro w1 M3
        refine ev_iinc (j := 4) (v := 1) (lv' := [(0, .ref (G.2.1 + x0)), (1, .int x1), (2, .int w1), (3, .int x3), (4, .int (x4 + 1))]) [1, 2, 3, 4, 0] dd_X11_tide_55 rfl (by decide) (by decide) rfl ?_
        refine ev_goto 26 dd_X11_tide_58 (by decide) ?_
        exact ih _ _ _
      · refine ev_if_eq 55 dd_X11_tide_49 (by decide) ?_ ?_
        · exact hk1 _ _
        · refine ev_iinc (j := 2) (v := 1) (lv' := [(0, .ref (G.2.1 + x0)), (1, .int x1), (2, .int (x2 + 1)), (3, .int x3), (4, .int x4)]) [1, 2, 0, 3, 4] dd_X11_tide_52 rfl (by decide) (by decide) rfl ?_
          exact hk1 _ _
set_option maxHeartbeats 1000000 in
set_option maxRecDepth 20000 in
theorem ct_X11_tide_L10 (l : Launch) (hl : l.stackTraces = false) (G : zG) (x0 : Nat) (hx0 : zsh x0 = 11) (x1 : Int32) (K67 : Int32 → zM → zO) (hK67 : ∀ (x2 : Int32) (M : zM), zEv l G Y_X11_tide 9 1 67 [(2, .int x2)] [] M (K67 x2 M)) : ∀ (n : Nat) (x2 : Int32) (x3 : Int32) (M : zM), zEv l G Y_X11_tide 9 1 10 [(0, .ref (G.2.1 + x0)), (1, .int x1), (2, .int x2), (3, .int x3)] [] M (F_X11_tide_L10 x0 x1 K67 n x2 x3 M) := by
  intro n
  induction n with
  | zero => intro x2 x3 M; exact ev_none
  | succ n ih =>
    intro x2 x3 M
    show zEv l G Y_X11_tide 9 1 10 [(0, .ref (G.2.1 + x0)), (1, .int x1), (2, .int x2), (3, .int x3)] [] M (zit ((M (zgr x0 1) 0) ≤ x3) (K67 x2 M) (zlt (x3 + 1) (fun v1 => F_X11_tide_L26 x0 x1 x3 (fun (y1 : Int32) (M4 : zM) => F_X11_tide_L10 x0 x1 K67 n y1 (x3 + 1) M4) zN x2 v1 M)))
    refine ev_iload_n dd_X11_tide_10 3 rfl ?_
    refine ev_aload_n dd_X11_tide_11 0 rfl ?_
    refine ev_getR gf_RX11_19 dd_X11_tide_12 hx0 (by decide) ?_
    refine ev_getI gf_RX11_142 dd_X11_tide_15 (zg_11_1 hx0) (by decide) ?_
    refine ev_icmp_ge 67 dd_X11_tide_18 (by decide) ?_ ?_
    · refine ev_lv (lv' := [(2, .int x2)]) [2] rfl ?_
      exact hK67 _ _
    · refine ev_iload_n dd_X11_tide_21 3 rfl ?_
      refine ev_iconst (v := 1) dd_X11_tide_22 (by decide) ?_
      refine ev_iadd dd_X11_tide_23 ?_
      refine ev_topi (fun v1 => ?_)
      refine ev_istore (i := 4) (lv' := [(0, .ref (G.2.1 + x0)), (1, .int x1), (2, .int x2), (3, .int x3), (4, .int v1)]) [1, 2, 3, 4, 0] dd_X11_tide_24 (by decide) rfl ?_
      refine ct_X11_tide_L26 l hl G x0 hx0 x1 x3 _ (fun y1 M4 => ?_) zN _ _ _
      refine ev_iinc (j := 3) (v := 1) (lv' := [(0, .ref (G.2.1 + x0)), (1, .int x1), (2, .int y1), (3, .int (x3 + 1))]) [1, 2, 3, 0] dd_X11_tide_61 rfl (by decide) (by decide) rfl ?_
      refine ev_goto 10 dd_X11_tide_64 (by decide) ?_
      exact ih _ _ _
set_option maxHeartbeats 1000000 in
set_option maxRecDepth 20000 in
theorem ct_X11_tide (l : Launch) (hl : l.stackTraces = false) (G : zG) (t : Nat) (ht : zsh t = 11) (a1 : Int32) (M : zM) : zMt l G Y_X11_tide 9 [.ref (G.2.1 + t), .int a1] M (F_X11_tide t a1 M) := by
  refine zMt_of (by decide +kernel) (Nat.le_of_ble_eq_true rfl) ?_
  show zEv l G Y_X11_tide 9 0 0 [(0, .ref (G.2.1 + t)), (1, .int a1)] [] M (zbV (F_X11_needAmount a1 9 M) (fun M1 => F_X11_tide_L10 t a1 (fun (y2 : Int32) (M5 : zM) => zI y2 M5) zN 0 0 M1))
  refine ev_iload_n dd_X11_tide_0 1 rfl ?_
  refine ev_bipush (v := 9) dd_X11_tide_1 (by decide) ?_
  refine ev_callSV (As := [.int a1, .int 9]) cl_RX11_323 (ct_X11_needAmount l hl G a1 9 M) dd_X11_tide_3 (by decide) (Nat.le_of_ble_eq_true rfl) (Nat.le_of_ble_eq_true rfl) rfl rfl (fun M1 => ?_)
  refine ev_iconst (v := 0) dd_X11_tide_6 (by decide) ?_
  refine ev_istore_n (i := 2) (lv' := [(0, .ref (G.2.1 + t)), (1, .int a1), (2, .int 0)]) [1, 2, 0] dd_X11_tide_7 rfl (by decide) rfl ?_
  refine ev_iconst (v := 0) dd_X11_tide_8 (by decide) ?_
  refine ev_istore_n (i := 3) (lv' := [(0, .ref (G.2.1 + t)), (1, .int a1), (2, .int 0), (3, .int 0)]) [1, 2, 3, 0] dd_X11_tide_9 rfl (by decide) rfl ?_
  refine ct_X11_tide_L10 l hl G t ht a1 _ (fun y2 M5 => ?_) zN _ _ _
  refine ev_iload_n dd_X11_tide_67 0 rfl ?_
  refine ev_lv (lv' := []) [] rfl ?_
  exact ev_iret dd_X11_tide_68 rfl (Nat.le_of_ble_eq_true rfl) rfl
/-! X3_undoLast -/
theorem dd_X3_undoLast_0 : decode Y_X3_undoLast.2.1 0 = .ok (.aload_n 0, 1) := by decide +kernel
theorem dd_X3_undoLast_1 : decode Y_X3_undoLast.2.1 1 = .ok (.getfield 9, 3) := by decide +kernel
theorem dd_X3_undoLast_4 : decode Y_X3_undoLast.2.1 4 = .ok (.ifCond .gt 4, 3) := by decide +kernel
theorem dd_X3_undoLast_7 : decode Y_X3_undoLast.2.1 7 = .ok (.return_, 1) := by decide +kernel
theorem dd_X3_undoLast_8 : decode Y_X3_undoLast.2.1 8 = .ok (.aload_n 0, 1) := by decide +kernel
theorem dd_X3_undoLast_9 : decode Y_X3_undoLast.2.1 9 = .ok (.dup, 1) := by decide +kernel
theorem dd_X3_undoLast_10 : decode Y_X3_undoLast.2.1 10 = .ok (.getfield 9, 3) := by decide +kernel
theorem dd_X3_undoLast_13 : decode Y_X3_undoLast.2.1 13 = .ok (.iconst 1, 1) := by decide +kernel
theorem dd_X3_undoLast_14 : decode Y_X3_undoLast.2.1 14 = .ok (.isub, 1) := by decide +kernel
theorem dd_X3_undoLast_15 : decode Y_X3_undoLast.2.1 15 = .ok (.putfield 9, 3) := by decide +kernel
theorem dd_X3_undoLast_18 : decode Y_X3_undoLast.2.1 18 = .ok (.aload_n 0, 1) := by decide +kernel
theorem dd_X3_undoLast_19 : decode Y_X3_undoLast.2.1 19 = .ok (.getfield 18, 3) := by decide +kernel
theorem dd_X3_undoLast_22 : decode Y_X3_undoLast.2.1 22 = .ok (.aload_n 0, 1) := by decide +kernel
theorem dd_X3_undoLast_23 : decode Y_X3_undoLast.2.1 23 = .ok (.getfield 9, 3) := by decide +kernel
theorem dd_X3_undoLast_26 : decode Y_X3_undoLast.2.1 26 = .ok (.iaload, 1) := by decide +kernel
theorem dd_X3_undoLast_27 : decode Y_X3_undoLast.2.1 27 = .ok (.ifCond .ne 29, 3) := by decide +kernel
theorem dd_X3_undoLast_30 : decode Y_X3_undoLast.2.1 30 = .ok (.aload_n 1, 1) := by decide +kernel
theorem dd_X3_undoLast_31 : decode Y_X3_undoLast.2.1 31 = .ok (.aload_n 0, 1) := by decide +kernel
theorem dd_X3_undoLast_32 : decode Y_X3_undoLast.2.1 32 = .ok (.getfield 22, 3) := by decide +kernel
theorem dd_X3_undoLast_35 : decode Y_X3_undoLast.2.1 35 = .ok (.aload_n 0, 1) := by decide +kernel
theorem dd_X3_undoLast_36 : decode Y_X3_undoLast.2.1 36 = .ok (.getfield 9, 3) := by decide +kernel
theorem dd_X3_undoLast_39 : decode Y_X3_undoLast.2.1 39 = .ok (.iaload, 1) := by decide +kernel
theorem dd_X3_undoLast_40 : decode Y_X3_undoLast.2.1 40 = .ok (.aload_n 0, 1) := by decide +kernel
theorem dd_X3_undoLast_41 : decode Y_X3_undoLast.2.1 41 = .ok (.getfield 25, 3) := by decide +kernel
theorem dd_X3_undoLast_44 : decode Y_X3_undoLast.2.1 44 = .ok (.aload_n 0, 1) := by decide +kernel
theorem dd_X3_undoLast_45 : decode Y_X3_undoLast.2.1 45 = .ok (.getfield 9, 3) := by decide +kernel
theorem dd_X3_undoLast_48 : decode Y_X3_undoLast.2.1 48 = .ok (.iaload, 1) := by decide +kernel
theorem dd_X3_undoLast_49 : decode Y_X3_undoLast.2.1 49 = .ok (.invokevirtual 46, 3) := by decide +kernel
theorem dd_X3_undoLast_52 : decode Y_X3_undoLast.2.1 52 = .ok (.pop, 1) := by decide +kernel
theorem dd_X3_undoLast_53 : decode Y_X3_undoLast.2.1 53 = .ok (.goto 63, 3) := by decide +kernel
theorem dd_X3_undoLast_56 : decode Y_X3_undoLast.2.1 56 = .ok (.aload_n 0, 1) := by decide +kernel
theorem dd_X3_undoLast_57 : decode Y_X3_undoLast.2.1 57 = .ok (.getfield 18, 3) := by decide +kernel
theorem dd_X3_undoLast_60 : decode Y_X3_undoLast.2.1 60 = .ok (.aload_n 0, 1) := by decide +kernel
theorem dd_X3_undoLast_61 : decode Y_X3_undoLast.2.1 61 = .ok (.getfield 9, 3) := by decide +kernel
theorem dd_X3_undoLast_64 : decode Y_X3_undoLast.2.1 64 = .ok (.iaload, 1) := by decide +kernel
theorem dd_X3_undoLast_65 : decode Y_X3_undoLast.2.1 65 = .ok (.iconst 1, 1) := by decide +kernel
theorem dd_X3_undoLast_66 : decode Y_X3_undoLast.2.1 66 = .ok (.if_icmp .ne 19, 3) := by decide +kernel
theorem dd_X3_undoLast_69 : decode Y_X3_undoLast.2.1 69 = .ok (.aload_n 1, 1) := by decide +kernel
theorem dd_X3_undoLast_70 : decode Y_X3_undoLast.2.1 70 = .ok (.aload_n 0, 1) := by decide +kernel
theorem dd_X3_undoLast_71 : decode Y_X3_undoLast.2.1 71 = .ok (.getfield 28, 3) := by decide +kernel
theorem dd_X3_undoLast_74 : decode Y_X3_undoLast.2.1 74 = .ok (.aload_n 0, 1) := by decide +kernel
theorem dd_X3_undoLast_75 : decode Y_X3_undoLast.2.1 75 = .ok (.getfield 9, 3) := by decide +kernel
theorem dd_X3_undoLast_78 : decode Y_X3_undoLast.2.1 78 = .ok (.iaload, 1) := by decide +kernel
theorem dd_X3_undoLast_79 : decode Y_X3_undoLast.2.1 79 = .ok (.invokevirtual 52, 3) := by decide +kernel
theorem dd_X3_undoLast_82 : decode Y_X3_undoLast.2.1 82 = .ok (.goto 34, 3) := by decide +kernel
theorem dd_X3_undoLast_85 : decode Y_X3_undoLast.2.1 85 = .ok (.aload_n 1, 1) := by decide +kernel
theorem dd_X3_undoLast_86 : decode Y_X3_undoLast.2.1 86 = .ok (.aload_n 0, 1) := by decide +kernel
theorem dd_X3_undoLast_87 : decode Y_X3_undoLast.2.1 87 = .ok (.getfield 22, 3) := by decide +kernel
theorem dd_X3_undoLast_90 : decode Y_X3_undoLast.2.1 90 = .ok (.aload_n 0, 1) := by decide +kernel
theorem dd_X3_undoLast_91 : decode Y_X3_undoLast.2.1 91 = .ok (.getfield 9, 3) := by decide +kernel
theorem dd_X3_undoLast_94 : decode Y_X3_undoLast.2.1 94 = .ok (.iaload, 1) := by decide +kernel
theorem dd_X3_undoLast_95 : decode Y_X3_undoLast.2.1 95 = .ok (.aload_n 0, 1) := by decide +kernel
theorem dd_X3_undoLast_96 : decode Y_X3_undoLast.2.1 96 = .ok (.getfield 25, 3) := by decide +kernel
theorem dd_X3_undoLast_99 : decode Y_X3_undoLast.2.1 99 = .ok (.aload_n 0, 1) := by decide +kernel
theorem dd_X3_undoLast_100 : decode Y_X3_undoLast.2.1 100 = .ok (.getfield 9, 3) := by decide +kernel
theorem dd_X3_undoLast_103 : decode Y_X3_undoLast.2.1 103 = .ok (.iaload, 1) := by decide +kernel
theorem dd_X3_undoLast_104 : decode Y_X3_undoLast.2.1 104 = .ok (.aload_n 0, 1) := by decide +kernel
theorem dd_X3_undoLast_105 : decode Y_X3_undoLast.2.1 105 = .ok (.getfield 28, 3) := by decide +kernel
theorem dd_X3_undoLast_108 : decode Y_X3_undoLast.2.1 108 = .ok (.aload_n 0, 1) := by decide +kernel
theorem dd_X3_undoLast_109 : decode Y_X3_undoLast.2.1 109 = .ok (.getfield 9, 3) := by decide +kernel
theorem dd_X3_undoLast_112 : decode Y_X3_undoLast.2.1 112 = .ok (.iaload, 1) := by decide +kernel
theorem dd_X3_undoLast_113 : decode Y_X3_undoLast.2.1 113 = .ok (.invokevirtual 56, 3) := by decide +kernel
theorem dd_X3_undoLast_116 : decode Y_X3_undoLast.2.1 116 = .ok (.return_, 1) := by decide +kernel
def F_X3_undoLast (t : Nat) (a1 : Nat) (M : zM) : zO := zit (0 < (M t 0)) (zst (zup M t 0 ((M t 0) - 1)) (fun M1 => zck (zin (M1 t 0) 40) (zjo (fun  (M5 : zM) => zV M5) (fun (k1 : zM → zO) => zit ((M1 (zgr t 2) (zix (M1 t 0))) = 0) (zck (zin (M1 t 0) 40) (zck (zin (M1 t 0) 40) (zbI (F_X10_exchange a1 (M1 (zgr t 3) (zix (M1 t 0))) (M1 (zgr t 4) (zix (M1 t 0))) M1) (fun r1 M4 => k1 M4)))) (zck (zin (M1 t 0) 40) (zit ((M1 (zgr t 2) (zix (M1 t 0))) = 1) (zck (zin (M1 t 0) 40) (zbV (F_X10_takeYearBack a1 (M1 (zgr t 5) (zix (M1 t 0))) M1) (fun M3 => k1 M3))) (zck (zin (M1 t 0) 40) (zck (zin (M1 t 0) 40) (zck (zin (M1 t 0) 40) (zbV (F_X10_setDebt a1 (M1 (zgr t 3) (zix (M1 t 0))) (M1 (zgr t 4) (zix (M1 t 0))) (M1 (zgr t 5) (zix (M1 t 0))) M1) (fun M2 => k1 M2))))))))))) (zV M)
set_option maxHeartbeats 1000000 in
set_option maxRecDepth 20000 in
theorem ct_X3_undoLast (l : Launch) (hl : l.stackTraces = false) (G : zG) (t : Nat) (ht : zsh t = 3) (a1 : Nat) (ha1 : zsh a1 = 10) (M : zM) : zMt l G Y_X3_undoLast 4 [.ref (G.2.1 + t), .ref (G.2.1 + a1)] M (F_X3_undoLast t a1 M) := by
  refine zMt_of (by decide +kernel) (Nat.le_of_ble_eq_true rfl) ?_
  show zEv l G Y_X3_undoLast 4 0 0 [(0, .ref (G.2.1 + t)), (1, .ref (G.2.1 + a1))] [] M (zit (0 < (M t 0)) (zst (zup M t 0 ((M t 0) - 1)) (fun M1 => zck (zin (M1 t 0) 40) (zjo (fun  (M5 : zM) => zV M5) (fun (k1 : zM → zO) => zit ((M1 (zgr t 2) (zix (M1 t 0))) = 0) (zck (zin (M1 t 0) 40) (zck (zin (M1 t 0) 40) (zbI (F_X10_exchange a1 (M1 (zgr t 3) (zix (M1 t 0))) (M1 (zgr t 4) (zix (M1 t 0))) M1) (fun r1 M4 => k1 M4)))) (zck (zin (M1 t 0) 40) (zit ((M1 (zgr t 2) (zix (M1 t 0))) = 1) (zck (zin (M1 t 0) 40) (zbV (F_X10_takeYearBack a1 (M1 (zgr t 5) (zix (M1 t 0))) M1) (fun M3 => k1 M3))) (zck (zin (M1 t 0) 40) (zck (zin (M1 t 0) 40) (zck (zin (M1 t 0) 40) (zbV (F_X10_setDebt a1 (M1 (zgr t 3) (zix (M1 t 0))) (M1 (zgr t 4) (zix (M1 t 0))) (M1 (zgr t 5) (zix (M1 t 0))) M1) (fun M2 => k1 M2))))))))))) (zV M))
  refine ev_aload_n dd_X3_undoLast_0 0 rfl ?_
  refine ev_getI gf_RX3_9 dd_X3_undoLast_1 ht (by decide) ?_
  refine ev_if_gt 8 dd_X3_undoLast_4 (by decide) ?_ ?_
  · refine ev_aload_n dd_X3_undoLast_8 0 rfl ?_
    refine ev_dup dd_X3_undoLast_9 rfl ?_
    refine ev_getI gf_RX3_9 dd_X3_undoLast_10 ht (by decide) ?_
    refine ev_iconst (v := 1) dd_X3_undoLast_13 (by decide) ?_
    refine ev_isub dd_X3_undoLast_14 ?_
    refine ev_putI gw_RX3_9 dd_X3_undoLast_15 ht (by decide) ?_
    refine ev_st (fun M1 => ?_)
    refine ev_aload_n dd_X3_undoLast_18 0 rfl ?_
    refine ev_getR gf_RX3_18 dd_X3_undoLast_19 ht (by decide) ?_
    refine ev_aload_n dd_X3_undoLast_22 0 rfl ?_
    refine ev_getI gf_RX3_9 dd_X3_undoLast_23 ht (by decide) ?_
    refine ev_iald dd_X3_undoLast_26 ((zg_3_2 ht).1) ((zg_3_2 ht).2) ?_
    refine ev_jo (fun (k1 : zM → zO) => ∀  (M5 : zM), zEv l G Y_X3_undoLast 4 0 116 [] [] M5 (k1 M5)) ?_ (fun k1 hk1 => ?_)
    · intro M5
      exact ev_vret dd_X3_undoLast_116 rfl (Nat.le_of_ble_eq_true rfl) rfl
    · refine ev_if_ne 56 dd_X3_undoLast_27 (by decide) ?_ ?_
      · refine ev_aload_n dd_X3_undoLast_56 0 rfl ?_
        refine ev_getR gf_RX3_18 dd_X3_undoLast_57 ht (by decide) ?_
        refine ev_aload_n dd_X3_undoLast_60 0 rfl ?_
        refine ev_getI gf_RX3_9 dd_X3_undoLast_61 ht (by decide) ?_
        refine ev_iald dd_X3_undoLast_64 ((zg_3_2 ht).1) ((zg_3_2 ht).2) ?_
        refine ev_iconst (v := 1) dd_X3_undoLast_65 (by decide) ?_
        refine ev_icmp_ne 85 dd_X3_undoLast_66 (by decide) ?_ ?_
        · refine ev_aload_n dd_X3_undoLast_85 1 rfl ?_
          refine ev_lv (lv' := [(0, .ref (G.2.1 + t))]) [0] rfl ?_
          refine ev_aload_n dd_X3_undoLast_86 0 rfl ?_
          refine ev_getR gf_RX3_22 dd_X3_undoLast_87 ht (by decide) ?_
          refine ev_aload_n dd_X3_undoLast_90 0 rfl ?_
          refine ev_getI gf_RX3_9 dd_X3_undoLast_91 ht (by decide) ?_
          refine ev_iald dd_X3_undoLast_94 ((zg_3_3 ht).1) ((zg_3_3 ht).2) ?_
          refine ev_aload_n dd_X3_undoLast_95 0 rfl ?_
          refine ev_getR gf_RX3_25 dd_X3_undoLast_96 ht (by decide) ?_
          refine ev_aload_n dd_X3_undoLast_99 0 rfl ?_
          refine ev_getI gf_RX3_9 dd_X3_undoLast_100 ht (by decide) ?_
          refine ev_iald dd_X3_undoLast_103 ((zg_3_4 ht).1) ((zg_3_4 ht).2) ?_
          refine ev_aload_n dd_X3_undoLast_104 0 rfl ?_
          refine ev_getR gf_RX3_28 dd_X3_undoLast_105 ht (by decide) ?_
          refine ev_aload_n dd_X3_undoLast_108 0 rfl ?_
          refine ev_lv (lv' := []) [] rfl ?_
          refine ev_getI gf_RX3_9 dd_X3_undoLast_109 ht (by decide) ?_
          refine ev_iald dd_X3_undoLast_112 ((zg_3_5 ht).1) ((zg_3_5 ht).2) ?_
          refine ev_callVV (As := [.int (M1 (zgr t 3) (zix (M1 t 0))), .int (M1 (zgr t 4) (zix (M1 t 0))), .int (M1 (zgr t 5) (zix (M1 t 0)))]) cl_RX3_56 (ct_X10_setDebt l hl G a1 ha1 (M1 (zgr t 3) (zix (M1 t 0))) (M1 (zgr t 4) (zix (M1 t 0))) (M1 (zgr t 5) (zix (M1 t 0))) M1) dd_X3_undoLast_113 ha1 (by decide) (Nat.le_of_ble_eq_true rfl) (Nat.le_of_ble_eq_true rfl) rfl rfl (fun M2 => ?_)
          exact hk1 _
        · refine ev_aload_n dd_X3_undoLast_69 1 rfl ?_
          refine ev_lv (lv' := [(0, .ref (G.2.1 + t))]) [0] rfl ?_
          refine ev_aload_n dd_X3_undoLast_70 0 rfl ?_
          refine ev_getR gf_RX3_28 dd_X3_undoLast_71 ht (by decide) ?_
          refine ev_aload_n dd_X3_undoLast_74 0 rfl ?_
          refine ev_lv (lv' := []) [] rfl ?_
          refine ev_getI gf_RX3_9 dd_X3_undoLast_75 ht (by decide) ?_
          refine ev_iald dd_X3_undoLast_78 ((zg_3_5 ht).1) ((zg_3_5 ht).2) ?_
          refine ev_callVV (As := [.int (M1 (zgr t 5) (zix (M1 t 0)))]) cl_RX3_52 (ct_X10_takeYearBack l hl G a1 ha1 (M1 (zgr t 5) (zix (M1 t 0))) M1) dd_X3_undoLast_79 ha1 (by decide) (Nat.le_of_ble_eq_true rfl) (Nat.le_of_ble_eq_true rfl) rfl rfl (fun M3 => ?_)
          refine ev_goto 116 dd_X3_undoLast_82 (by decide) ?_
          exact hk1 _
      · refine ev_aload_n dd_X3_undoLast_30 1 rfl ?_
        refine ev_lv (lv' := [(0, .ref (G.2.1 + t))]) [0] rfl ?_
        refine ev_aload_n dd_X3_undoLast_31 0 rfl ?_
        refine ev_getR gf_RX3_22 dd_X3_undoLast_32 ht (by decide) ?_
        refine ev_aload_n dd_X3_undoLast_35 0 rfl ?_
        refine ev_getI gf_RX3_9 dd_X3_undoLast_36 ht (by decide) ?_
        refine ev_iald dd_X3_undoLast_39 ((zg_3_3 ht).1) ((zg_3_3 ht).2) ?_
        refine ev_aload_n dd_X3_undoLast_40 0 rfl ?_
        refine ev_getR gf_RX3_25 dd_X3_undoLast_41 ht (by decide) ?_
        refine ev_aload_n dd_X3_undoLast_44 0 rfl ?_
        refine ev_lv (lv' := []) [] rfl ?_
        refine ev_getI gf_RX3_9 dd_X3_undoLast_45 ht (by decide) ?_
        refine ev_iald dd_X3_undoLast_48 ((zg_3_4 ht).1) ((zg_3_4 ht).2) ?_
        refine ev_callVI (As := [.int (M1 (zgr t 3) (zix (M1 t 0))), .int (M1 (zgr t 4) (zix (M1 t 0)))]) cl_RX3_46 (ct_X10_exchange l hl G a1 ha1 (M1 (zgr t 3) (zix (M1 t 0))) (M1 (zgr t 4) (zix (M1 t 0))) M1) dd_X3_undoLast_49 ha1 (by decide) (Nat.le_of_ble_eq_true rfl) (Nat.le_of_ble_eq_true rfl) rfl rfl (fun r1 M4 => ?_)
        refine ev_pop dd_X3_undoLast_52 rfl ?_
        refine ev_goto 116 dd_X3_undoLast_53 (by decide) ?_
        exact hk1 _
  · refine ev_lv (lv' := []) [] rfl ?_
    exact ev_vret dd_X3_undoLast_7 rfl (Nat.le_of_ble_eq_true rfl) rfl
/-! X11_undo -/
theorem dd_X11_undo_0 : decode Y_X11_undo.2.1 0 = .ok (.aload_n 0, 1) := by decide +kernel
theorem dd_X11_undo_1 : decode Y_X11_undo.2.1 1 = .ok (.getfield 53, 3) := by decide +kernel
theorem dd_X11_undo_4 : decode Y_X11_undo.2.1 4 = .ok (.getfield 154, 3) := by decide +kernel
theorem dd_X11_undo_7 : decode Y_X11_undo.2.1 7 = .ok (.ifCond .ne 5, 3) := by decide +kernel
theorem dd_X11_undo_10 : decode Y_X11_undo.2.1 10 = .ok (.iconst (-1), 1) := by decide +kernel
theorem dd_X11_undo_11 : decode Y_X11_undo.2.1 11 = .ok (.ireturn, 1) := by decide +kernel
theorem dd_X11_undo_12 : decode Y_X11_undo.2.1 12 = .ok (.aload_n 0, 1) := by decide +kernel
theorem dd_X11_undo_13 : decode Y_X11_undo.2.1 13 = .ok (.dup, 1) := by decide +kernel
theorem dd_X11_undo_14 : decode Y_X11_undo.2.1 14 = .ok (.getfield 104, 3) := by decide +kernel
theorem dd_X11_undo_17 : decode Y_X11_undo.2.1 17 = .ok (.iconst 1, 1) := by decide +kernel
theorem dd_X11_undo_18 : decode Y_X11_undo.2.1 18 = .ok (.iadd, 1) := by decide +kernel
theorem dd_X11_undo_19 : decode Y_X11_undo.2.1 19 = .ok (.putfield 104, 3) := by decide +kernel
theorem dd_X11_undo_22 : decode Y_X11_undo.2.1 22 = .ok (.aload_n 0, 1) := by decide +kernel
theorem dd_X11_undo_23 : decode Y_X11_undo.2.1 23 = .ok (.getfield 53, 3) := by decide +kernel
theorem dd_X11_undo_26 : decode Y_X11_undo.2.1 26 = .ok (.aload_n 0, 1) := by decide +kernel
theorem dd_X11_undo_27 : decode Y_X11_undo.2.1 27 = .ok (.getfield 40, 3) := by decide +kernel
theorem dd_X11_undo_30 : decode Y_X11_undo.2.1 30 = .ok (.invokevirtual 238, 3) := by decide +kernel
theorem dd_X11_undo_33 : decode Y_X11_undo.2.1 33 = .ok (.aload_n 0, 1) := by decide +kernel
theorem dd_X11_undo_34 : decode Y_X11_undo.2.1 34 = .ok (.getfield 53, 3) := by decide +kernel
theorem dd_X11_undo_37 : decode Y_X11_undo.2.1 37 = .ok (.getfield 154, 3) := by decide +kernel
theorem dd_X11_undo_40 : decode Y_X11_undo.2.1 40 = .ok (.ireturn, 1) := by decide +kernel
def F_X11_undo (t : Nat) (M : zM) : zO := zit ((M (zgr t 7) 0) = 0) (zI (-1) M) (zst (zup M t 15 ((M t 15) + 1)) (fun M1 => zbV (F_X3_undoLast (zgr t 7) (zgr t 4) M1) (fun M2 => zI (M2 (zgr t 7) 0) M2)))
set_option maxHeartbeats 1000000 in
set_option maxRecDepth 20000 in
theorem ct_X11_undo (l : Launch) (hl : l.stackTraces = false) (G : zG) (t : Nat) (ht : zsh t = 11) (M : zM) : zMt l G Y_X11_undo 5 [.ref (G.2.1 + t)] M (F_X11_undo t M) := by
  refine zMt_of (by decide +kernel) (Nat.le_of_ble_eq_true rfl) ?_
  show zEv l G Y_X11_undo 5 0 0 [(0, .ref (G.2.1 + t))] [] M (zit ((M (zgr t 7) 0) = 0) (zI (-1) M) (zst (zup M t 15 ((M t 15) + 1)) (fun M1 => zbV (F_X3_undoLast (zgr t 7) (zgr t 4) M1) (fun M2 => zI (M2 (zgr t 7) 0) M2))))
  refine ev_aload_n dd_X11_undo_0 0 rfl ?_
  refine ev_getR gf_RX11_53 dd_X11_undo_1 ht (by decide) ?_
  refine ev_getI gf_RX11_154 dd_X11_undo_4 (zg_11_7 ht) (by decide) ?_
  refine ev_if_ne 12 dd_X11_undo_7 (by decide) ?_ ?_
  · refine ev_aload_n dd_X11_undo_12 0 rfl ?_
    refine ev_dup dd_X11_undo_13 rfl ?_
    refine ev_getI gf_RX11_104 dd_X11_undo_14 ht (by decide) ?_
    refine ev_iconst (v := 1) dd_X11_undo_17 (by decide) ?_
    refine ev_iadd dd_X11_undo_18 ?_
    refine ev_putI gw_RX11_104 dd_X11_undo_19 ht (by decide) ?_
    refine ev_st (fun M1 => ?_)
    refine ev_aload_n dd_X11_undo_22 0 rfl ?_
    refine ev_getR gf_RX11_53 dd_X11_undo_23 ht (by decide) ?_
    refine ev_aload_n dd_X11_undo_26 0 rfl ?_
    refine ev_getR gf_RX11_40 dd_X11_undo_27 ht (by decide) ?_
    refine ev_callVV (As := [.ref (G.2.1 + (zgr t 4))]) cl_RX11_238 (ct_X3_undoLast l hl G (zgr t 7) (zg_11_7 ht) (zgr t 4) (zg_11_4 ht) M1) dd_X11_undo_30 (zg_11_7 ht) (by decide) (Nat.le_of_ble_eq_true rfl) (Nat.le_of_ble_eq_true rfl) rfl rfl (fun M2 => ?_)
    refine ev_aload_n dd_X11_undo_33 0 rfl ?_
    refine ev_lv (lv' := []) [] rfl ?_
    refine ev_getR gf_RX11_53 dd_X11_undo_34 ht (by decide) ?_
    refine ev_getI gf_RX11_154 dd_X11_undo_37 (zg_11_7 ht) (by decide) ?_
    exact ev_iret dd_X11_undo_40 rfl (Nat.le_of_ble_eq_true rfl) rfl
  · refine ev_lv (lv' := []) [] rfl ?_
    refine ev_iconst (v := (-1)) dd_X11_undo_10 (by decide) ?_
    exact ev_iret dd_X11_undo_11 rfl (Nat.le_of_ble_eq_true rfl) rfl
/-! X11_weather -/
theorem dd_X11_weather_0 : decode Y_X11_weather.2.1 0 = .ok (.iload_n 1, 1) := by decide +kernel
theorem dd_X11_weather_1 : decode Y_X11_weather.2.1 1 = .ok (.iload_n 2, 1) := by decide +kernel
theorem dd_X11_weather_2 : decode Y_X11_weather.2.1 2 = .ok (.invokestatic 288, 3) := by decide +kernel
theorem dd_X11_weather_5 : decode Y_X11_weather.2.1 5 = .ok (.iload_n 3, 1) := by decide +kernel
theorem dd_X11_weather_6 : decode Y_X11_weather.2.1 6 = .ok (.bipush 120, 2) := by decide +kernel
theorem dd_X11_weather_8 : decode Y_X11_weather.2.1 8 = .ok (.invokestatic 323, 3) := by decide +kernel
theorem dd_X11_weather_11 : decode Y_X11_weather.2.1 11 = .ok (.iconst 0, 1) := by decide +kernel
theorem dd_X11_weather_12 : decode Y_X11_weather.2.1 12 = .ok (.istore 4, 2) := by decide +kernel
theorem dd_X11_weather_14 : decode Y_X11_weather.2.1 14 = .ok (.iconst 0, 1) := by decide +kernel
theorem dd_X11_weather_15 : decode Y_X11_weather.2.1 15 = .ok (.istore 5, 2) := by decide +kernel
theorem dd_X11_weather_17 : decode Y_X11_weather.2.1 17 = .ok (.iload 5, 2) := by decide +kernel
theorem dd_X11_weather_19 : decode Y_X11_weather.2.1 19 = .ok (.aload_n 0, 1) := by decide +kernel
theorem dd_X11_weather_20 : decode Y_X11_weather.2.1 20 = .ok (.getfield 19, 3) := by decide +kernel
theorem dd_X11_weather_23 : decode Y_X11_weather.2.1 23 = .ok (.getfield 142, 3) := by decide +kernel
theorem dd_X11_weather_26 : decode Y_X11_weather.2.1 26 = .ok (.if_icmp .ge 53, 3) := by decide +kernel
theorem dd_X11_weather_29 : decode Y_X11_weather.2.1 29 = .ok (.aload_n 0, 1) := by decide +kernel
theorem dd_X11_weather_30 : decode Y_X11_weather.2.1 30 = .ok (.getfield 40, 3) := by decide +kernel
theorem dd_X11_weather_33 : decode Y_X11_weather.2.1 33 = .ok (.getfield 206, 3) := by decide +kernel
theorem dd_X11_weather_36 : decode Y_X11_weather.2.1 36 = .ok (.iload 5, 2) := by decide +kernel
theorem dd_X11_weather_38 : decode Y_X11_weather.2.1 38 = .ok (.iaload, 1) := by decide +kernel
theorem dd_X11_weather_39 : decode Y_X11_weather.2.1 39 = .ok (.istore 6, 2) := by decide +kernel
theorem dd_X11_weather_41 : decode Y_X11_weather.2.1 41 = .ok (.aload_n 0, 1) := by decide +kernel
theorem dd_X11_weather_42 : decode Y_X11_weather.2.1 42 = .ok (.getfield 19, 3) := by decide +kernel
theorem dd_X11_weather_45 : decode Y_X11_weather.2.1 45 = .ok (.getfield 187, 3) := by decide +kernel
theorem dd_X11_weather_48 : decode Y_X11_weather.2.1 48 = .ok (.iload 6, 2) := by decide +kernel
theorem dd_X11_weather_50 : decode Y_X11_weather.2.1 50 = .ok (.iaload, 1) := by decide +kernel
theorem dd_X11_weather_51 : decode Y_X11_weather.2.1 51 = .ok (.iconst 2, 1) := by decide +kernel
theorem dd_X11_weather_52 : decode Y_X11_weather.2.1 52 = .ok (.if_icmp .ne 21, 3) := by decide +kernel
theorem dd_X11_weather_55 : decode Y_X11_weather.2.1 55 = .ok (.aload_n 0, 1) := by decide +kernel
theorem dd_X11_weather_56 : decode Y_X11_weather.2.1 56 = .ok (.getfield 19, 3) := by decide +kernel
theorem dd_X11_weather_59 : decode Y_X11_weather.2.1 59 = .ok (.iload 6, 2) := by decide +kernel
theorem dd_X11_weather_61 : decode Y_X11_weather.2.1 61 = .ok (.iload_n 1, 1) := by decide +kernel
theorem dd_X11_weather_62 : decode Y_X11_weather.2.1 62 = .ok (.iload_n 2, 1) := by decide +kernel
theorem dd_X11_weather_63 : decode Y_X11_weather.2.1 63 = .ok (.invokevirtual 356, 3) := by decide +kernel
theorem dd_X11_weather_66 : decode Y_X11_weather.2.1 66 = .ok (.iload_n 3, 1) := by decide +kernel
theorem dd_X11_weather_67 : decode Y_X11_weather.2.1 67 = .ok (.if_icmp .gt 6, 3) := by decide +kernel
theorem dd_X11_weather_70 : decode Y_X11_weather.2.1 70 = .ok (.iinc 4 1, 3) := by decide +kernel
theorem dd_X11_weather_73 : decode Y_X11_weather.2.1 73 = .ok (.iinc 5 1, 3) := by decide +kernel
theorem dd_X11_weather_76 : decode Y_X11_weather.2.1 76 = .ok (.goto (-59), 3) := by decide +kernel
theorem dd_X11_weather_79 : decode Y_X11_weather.2.1 79 = .ok (.iload 4, 2) := by decide +kernel
theorem dd_X11_weather_81 : decode Y_X11_weather.2.1 81 = .ok (.ireturn, 1) := by decide +kernel
def F_X11_weather_L17 (x0 : Nat) (x1 : Int32) (x2 : Int32) (x3 : Int32) (K79 : Int32 → zM → zO) : Nat → Int32 → Int32 → zM → zO
  | 0, _, _, _ => none
  | n + 1, x4, x5, M => zit ((M (zgr x0 1) 0) ≤ x5) (K79 x4 M) (zck (zin x5 8) (zlt (M (zgr (zgr x0 4) 1) (zix x5)) (fun v1 => zck (zin v1 8) (zjo (fun (w1 : Int32) (M4 : zM) => F_X11_weather_L17 x0 x1 x2 x3 K79 n w1 (x5 + 1) M4) (fun (k1 : Int32 → zM → zO) => zit ((M (zgr (zgr x0 1) 8) (zix v1)) = 2) (zbI (F_X6_farFrom (zgr x0 1) v1 x1 x2 M) (fun r1 M3 => zit (x3 < r1) (k1 x4 M3) (k1 (x4 + 1) M3))) (k1 x4 M))))))
def F_X11_weather (t : Nat) (a1 : Int32) (a2 : Int32) (a3 : Int32) (M : zM) : zO := zbV (F_X11_needPlace a1 a2 M) (fun M1 => zbV (F_X11_needAmount a3 120 M1) (fun M2 => F_X11_weather_L17 t a1 a2 a3 (fun (y1 : Int32) (M5 : zM) => zI y1 M5) zN 0 0 M2))
set_option maxHeartbeats 1000000 in
set_option maxRecDepth 20000 in
theorem ct_X11_weather_L17 (l : Launch) (hl : l.stackTraces = false) (G : zG) (x0 : Nat) (hx0 : zsh x0 = 11) (x1 : Int32) (x2 : Int32) (x3 : Int32) (K79 : Int32 → zM → zO) (hK79 : ∀ (x4 : Int32) (M : zM), zEv l G Y_X11_weather 9 3 79 [(4, .int x4)] [] M (K79 x4 M)) : ∀ (n : Nat) (x4 : Int32) (x5 : Int32) (M : zM), zEv l G Y_X11_weather 9 3 17 [(0, .ref (G.2.1 + x0)), (1, .int x1), (2, .int x2), (3, .int x3), (4, .int x4), (5, .int x5)] [] M (F_X11_weather_L17 x0 x1 x2 x3 K79 n x4 x5 M) := by
  intro n
  induction n with
  | zero => intro x4 x5 M; exact ev_none
  | succ n ih =>
    intro x4 x5 M
    show zEv l G Y_X11_weather 9 3 17 [(0, .ref (G.2.1 + x0)), (1, .int x1), (2, .int x2), (3, .int x3), (4, .int x4), (5, .int x5)] [] M (zit ((M (zgr x0 1) 0) ≤ x5) (K79 x4 M) (zck (zin x5 8) (zlt (M (zgr (zgr x0 4) 1) (zix x5)) (fun v1 => zck (zin v1 8) (zjo (fun (w1 : Int32) (M4 : zM) => F_X11_weather_L17 x0 x1 x2 x3 K79 n w1 (x5 + 1) M4) (fun (k1 : Int32 → zM → zO) => zit ((M (zgr (zgr x0 1) 8) (zix v1)) = 2) (zbI (F_X6_farFrom (zgr x0 1) v1 x1 x2 M) (fun r1 M3 => zit (x3 < r1) (k1 x4 M3) (k1 (x4 + 1) M3))) (k1 x4 M)))))))
    refine ev_iload dd_X11_weather_17 5 rfl ?_
    refine ev_aload_n dd_X11_weather_19 0 rfl ?_
    refine ev_getR gf_RX11_19 dd_X11_weather_20 hx0 (by decide) ?_
    refine ev_getI gf_RX11_142 dd_X11_weather_23 (zg_11_1 hx0) (by decide) ?_
    refine ev_icmp_ge 79 dd_X11_weather_26 (by decide) ?_ ?_
    · refine ev_lv (lv' := [(4, .int x4)]) [4] rfl ?_
      exact hK79 _ _
    · refine ev_aload_n dd_X11_weather_29 0 rfl ?_
      refine ev_getR gf_RX11_40 dd_X11_weather_30 hx0 (by decide) ?_
      refine ev_getR gf_RX11_206 dd_X11_weather_33 (zg_11_4 hx0) (by decide) ?_
      refine ev_iload dd_X11_weather_36 5 rfl ?_
      refine ev_iald dd_X11_weather_38 ((zg_10_1 (zg_11_4 hx0)).1) ((zg_10_1 (zg_11_4 hx0)).2) ?_
      refine ev_topi (fun v1 => ?_)
      refine ev_istore (i := 6) (lv' := [(0, .ref (G.2.1 + x0)), (1, .int x1), (2, .int x2), (3, .int x3), (4, .int x4), (5, .int x5), (6, .int v1)]) [1, 2, 3, 4, 5, 6, 0] dd_X11_weather_39 (by decide) rfl ?_
      refine ev_aload_n dd_X11_weather_41 0 rfl ?_
      refine ev_getR gf_RX11_19 dd_X11_weather_42 hx0 (by decide) ?_
      refine ev_getR gf_RX11_187 dd_X11_weather_45 (zg_11_1 hx0) (by decide) ?_
      refine ev_iload dd_X11_weather_48 6 rfl ?_
      refine ev_iald dd_X11_weather_50 ((zg_6_8 (zg_11_1 hx0)).1) ((zg_6_8 (zg_11_1 hx0)).2) ?_
      refine ev_iconst (v := 2) dd_X11_weather_51 (by decide) ?_
      refine ev_jo (fun (k1 : Int32 → zM → zO) => ∀ (w1 : Int32) (M4 : zM), zEv l G Y_X11_weather 9 3 73 [(0, .ref (G.2.1 + x0)), (1, .int x1), (2, .int x2), (3, .int x3), (4, .int w1), (5, .int x5)] [] M4 (k1 w1 M4)) ?_ (fun k1 hk1 => ?_)
      · intro w1 M4
        refine ev_iinc (j := 5) (v := 1) (lv' := [(0, .ref (G.2.1 + x0)), (1, .int x1), (2, .int x2), (3, .int x3), (4, .int w1), (5, .int (x5 + 1))]) [1, 2, 3, 4, 5, 0] dd_X11_weather_73 rfl (by decide) (by decide) rfl ?_
        refine ev_goto 17 dd_X11_weather_76 (by decide) ?_
        exact ih _ _ _
      · refine ev_icmp_ne 73 dd_X11_weather_52 (by decide) ?_ ?_
        · refine ev_lv (lv' := [(0, .ref (G.2.1 + x0)), (1, .int x1), (2, .int x2), (3, .int x3), (4, .int x4), (5, .int x5)]) [0, 1, 2, 3, 4, 5] rfl ?_
          exact hk1 _ _
        · refine ev_aload_n dd_X11_weather_55 0 rfl ?_
          refine ev_getR gf_RX11_19 dd_X11_weather_56 hx0 (by decide) ?_
          refine ev_iload dd_X11_weather_59 6 rfl ?_
          refine ev_lv (lv' := [(0, .ref (G.2.1 + x0)), (1, .int x1), (2, .int x2), (3, .int x3), (4, .int x4), (5, .int x5)]) [0, 1, 2, 3, 4, 5] rfl ?_
          refine ev_iload_n dd_X11_weather_61 1 rfl ?_
          refine ev_iload_n dd_X11_weather_62 2 rfl ?_
          refine ev_callVI (As := [.int v1, .int x1, .int x2]) cl_RX11_356 (ct_X6_farFrom l hl G (zgr x0 1) (zg_11_1 hx0) v1 x1 x2 M) dd_X11_weather_63 (zg_11_1 hx0) (by decide) (Nat.le_of_ble_eq_true rfl) (Nat.le_of_ble_eq_true rfl) rfl rfl (fun r1 M3 => ?_)
          refine ev_iload_n dd_X11_weather_66 3 rfl ?_
          refine ev_icmp_gt 73 dd_X11_weather_67 (by decide) ?_ ?_
          · exact hk1 _ _
          · refine ev_iinc (j := 4) (v := 1) (lv' := [(0, .ref (G.2.1 + x0)), (1, .int x1), (2, .int x2), (3, .int x3), (4, .int (x4 + 1)), (5, .int x5)]) [1, 2, 3, 4, 0, 5] dd_X11_weather_70 rfl (by decide) (by decide) rfl ?_
            exact hk1 _ _
set_option maxHeartbeats 1000000 in
set_option maxRecDepth 20000 in
theorem ct_X11_weather (l : Launch) (hl : l.stackTraces = false) (G : zG) (t : Nat) (ht : zsh t = 11) (a1 : Int32) (a2 : Int32) (a3 : Int32) (M : zM) : zMt l G Y_X11_weather 9 [.ref (G.2.1 + t), .int a1, .int a2, .int a3] M (F_X11_weather t a1 a2 a3 M) := by
  refine zMt_of (by decide +kernel) (Nat.le_of_ble_eq_true rfl) ?_
  show zEv l G Y_X11_weather 9 0 0 [(0, .ref (G.2.1 + t)), (1, .int a1), (2, .int a2), (3, .int a3)] [] M (zbV (F_X11_needPlace a1 a2 M) (fun M1 => zbV (F_X11_needAmount a3 120 M1) (fun M2 => F_X11_weather_L17 t a1 a2 a3 (fun (y1 : Int32) (M5 : zM) => zI y1 M5) zN 0 0 M2)))
  refine ev_iload_n dd_X11_weather_0 1 rfl ?_
  refine ev_iload_n dd_X11_weather_1 2 rfl ?_
  refine ev_callSV (As := [.int a1, .int a2]) cl_RX11_288 (ct_X11_needPlace l hl G a1 a2 M) dd_X11_weather_2 (by decide) (Nat.le_of_ble_eq_true rfl) (Nat.le_of_ble_eq_true rfl) rfl rfl (fun M1 => ?_)
  refine ev_iload_n dd_X11_weather_5 3 rfl ?_
  refine ev_bipush (v := 120) dd_X11_weather_6 (by decide) ?_
  refine ev_callSV (As := [.int a3, .int 120]) cl_RX11_323 (ct_X11_needAmount l hl G a3 120 M1) dd_X11_weather_8 (by decide) (Nat.le_of_ble_eq_true rfl) (Nat.le_of_ble_eq_true rfl) rfl rfl (fun M2 => ?_)
  refine ev_iconst (v := 0) dd_X11_weather_11 (by decide) ?_
  refine ev_istore (i := 4) (lv' := [(0, .ref (G.2.1 + t)), (1, .int a1), (2, .int a2), (3, .int a3), (4, .int 0)]) [1, 2, 3, 4, 0] dd_X11_weather_12 (by decide) rfl ?_
  refine ev_iconst (v := 0) dd_X11_weather_14 (by decide) ?_
  refine ev_istore (i := 5) (lv' := [(0, .ref (G.2.1 + t)), (1, .int a1), (2, .int a2), (3, .int a3), (4, .int 0), (5, .int 0)]) [1, 2, 3, 4, 5, 0] dd_X11_weather_15 (by decide) rfl ?_
  refine ct_X11_weather_L17 l hl G t ht a1 a2 a3 _ (fun y1 M5 => ?_) zN _ _ _
  refine ev_iload dd_X11_weather_79 0 rfl ?_
  refine ev_lv (lv' := []) [] rfl ?_
  exact ev_iret dd_X11_weather_81 rfl (Nat.le_of_ble_eq_true rfl) rfl
/-! X9_staying -/
theorem dd_X9_staying_0 : decode Y_X9_staying.2.1 0 = .ok (.iconst 0, 1) := by decide +kernel
theorem dd_X9_staying_1 : decode Y_X9_staying.2.1 1 = .ok (.istore_n 2, 1) := by decide +kernel
theorem dd_X9_staying_2 : decode Y_X9_staying.2.1 2 = .ok (.iload_n 2, 1) := by decide +kernel
theorem dd_X9_staying_3 : decode Y_X9_staying.2.1 3 = .ok (.aload_n 0, 1) := by decide +kernel
theorem dd_X9_staying_4 : decode Y_X9_staying.2.1 4 = .ok (.getfield 15, 3) := by decide +kernel
theorem dd_X9_staying_7 : decode Y_X9_staying.2.1 7 = .ok (.iload_n 1, 1) := by decide +kernel
theorem dd_X9_staying_8 : decode Y_X9_staying.2.1 8 = .ok (.iaload, 1) := by decide +kernel
theorem dd_X9_staying_9 : decode Y_X9_staying.2.1 9 = .ok (.if_icmp .ge 46, 3) := by decide +kernel
theorem dd_X9_staying_12 : decode Y_X9_staying.2.1 12 = .ok (.aload_n 0, 1) := by decide +kernel
theorem dd_X9_staying_13 : decode Y_X9_staying.2.1 13 = .ok (.iload_n 1, 1) := by decide +kernel
theorem dd_X9_staying_14 : decode Y_X9_staying.2.1 14 = .ok (.iload_n 2, 1) := by decide +kernel
theorem dd_X9_staying_15 : decode Y_X9_staying.2.1 15 = .ok (.invokevirtual 61, 3) := by decide +kernel
theorem dd_X9_staying_18 : decode Y_X9_staying.2.1 18 = .ok (.istore_n 3, 1) := by decide +kernel
theorem dd_X9_staying_19 : decode Y_X9_staying.2.1 19 = .ok (.iload_n 3, 1) := by decide +kernel
theorem dd_X9_staying_20 : decode Y_X9_staying.2.1 20 = .ok (.iconst 1, 1) := by decide +kernel
theorem dd_X9_staying_21 : decode Y_X9_staying.2.1 21 = .ok (.if_icmp .eq 26, 3) := by decide +kernel
theorem dd_X9_staying_24 : decode Y_X9_staying.2.1 24 = .ok (.iload_n 3, 1) := by decide +kernel
theorem dd_X9_staying_25 : decode Y_X9_staying.2.1 25 = .ok (.iconst 5, 1) := by decide +kernel
theorem dd_X9_staying_26 : decode Y_X9_staying.2.1 26 = .ok (.if_icmp .eq 21, 3) := by decide +kernel
theorem dd_X9_staying_29 : decode Y_X9_staying.2.1 29 = .ok (.iload_n 3, 1) := by decide +kernel
theorem dd_X9_staying_30 : decode Y_X9_staying.2.1 30 = .ok (.bipush 9, 2) := by decide +kernel
theorem dd_X9_staying_32 : decode Y_X9_staying.2.1 32 = .ok (.if_icmp .eq 15, 3) := by decide +kernel
theorem dd_X9_staying_35 : decode Y_X9_staying.2.1 35 = .ok (.iload_n 3, 1) := by decide +kernel
theorem dd_X9_staying_36 : decode Y_X9_staying.2.1 36 = .ok (.bipush 15, 2) := by decide +kernel
theorem dd_X9_staying_38 : decode Y_X9_staying.2.1 38 = .ok (.if_icmp .eq 9, 3) := by decide +kernel
theorem dd_X9_staying_41 : decode Y_X9_staying.2.1 41 = .ok (.iload_n 3, 1) := by decide +kernel
theorem dd_X9_staying_42 : decode Y_X9_staying.2.1 42 = .ok (.bipush 21, 2) := by decide +kernel
theorem dd_X9_staying_44 : decode Y_X9_staying.2.1 44 = .ok (.if_icmp .ne 5, 3) := by decide +kernel
theorem dd_X9_staying_47 : decode Y_X9_staying.2.1 47 = .ok (.iload_n 2, 1) := by decide +kernel
theorem dd_X9_staying_48 : decode Y_X9_staying.2.1 48 = .ok (.ireturn, 1) := by decide +kernel
theorem dd_X9_staying_49 : decode Y_X9_staying.2.1 49 = .ok (.iinc 2 1, 3) := by decide +kernel
theorem dd_X9_staying_52 : decode Y_X9_staying.2.1 52 = .ok (.goto (-50), 3) := by decide +kernel
theorem dd_X9_staying_55 : decode Y_X9_staying.2.1 55 = .ok (.iconst 0, 1) := by decide +kernel
theorem dd_X9_staying_56 : decode Y_X9_staying.2.1 56 = .ok (.ireturn, 1) := by decide +kernel
def F_X9_staying_L2 (x0 : Nat) (x1 : Int32) (K55 : zM → zO) : Nat → Int32 → zM → zO
  | 0, _, _ => none
  | n + 1, x2, M => zck (zin x1 8) (zit ((M (zgr x0 1) (zix x1)) ≤ x2) (K55 M) (zbI (F_X9_sign x0 x1 x2 M) (fun r1 M1 => zjo (fun  (M2 : zM) => zI x2 M2) (fun (k1 : zM → zO) => zit (r1 = 1) (k1 M1) (zit (r1 = 5) (k1 M1) (zit (r1 = 9) (k1 M1) (zit (r1 = 15) (k1 M1) (zit (r1 = 21) (k1 M1) (F_X9_staying_L2 x0 x1 K55 n (x2 + 1) M1)))))))))
def F_X9_staying (t : Nat) (a1 : Int32) (M : zM) : zO := F_X9_staying_L2 t a1 (fun  (M3 : zM) => zI 0 M3) zN 0 M
set_option maxHeartbeats 1000000 in
set_option maxRecDepth 20000 in
theorem ct_X9_staying_L2 (l : Launch) (hl : l.stackTraces = false) (G : zG) (x0 : Nat) (hx0 : zsh x0 = 9) (x1 : Int32) (K55 : zM → zO) (hK55 : ∀  (M : zM), zEv l G Y_X9_staying 2 0 55 [] [] M (K55 M)) : ∀ (n : Nat) (x2 : Int32) (M : zM), zEv l G Y_X9_staying 2 0 2 [(0, .ref (G.2.1 + x0)), (1, .int x1), (2, .int x2)] [] M (F_X9_staying_L2 x0 x1 K55 n x2 M) := by
  intro n
  induction n with
  | zero => intro x2 M; exact ev_none
  | succ n ih =>
    intro x2 M
    show zEv l G Y_X9_staying 2 0 2 [(0, .ref (G.2.1 + x0)), (1, .int x1), (2, .int x2)] [] M (zck (zin x1 8) (zit ((M (zgr x0 1) (zix x1)) ≤ x2) (K55 M) (zbI (F_X9_sign x0 x1 x2 M) (fun r1 M1 => zjo (fun  (M2 : zM) => zI x2 M2) (fun (k1 : zM → zO) => zit (r1 = 1) (k1 M1) (zit (r1 = 5) (k1 M1) (zit (r1 = 9) (k1 M1) (zit (r1 = 15) (k1 M1) (zit (r1 = 21) (k1 M1) (F_X9_staying_L2 x0 x1 K55 n (x2 + 1) M1))))))))))
    refine ev_iload_n dd_X9_staying_2 2 rfl ?_
    refine ev_aload_n dd_X9_staying_3 0 rfl ?_
    refine ev_getR gf_RX9_15 dd_X9_staying_4 hx0 (by decide) ?_
    refine ev_iload_n dd_X9_staying_7 1 rfl ?_
    refine ev_iald dd_X9_staying_8 ((zg_9_1 hx0).1) ((zg_9_1 hx0).2) ?_
    refine ev_icmp_ge 55 dd_X9_staying_9 (by decide) ?_ ?_
    · refine ev_lv (lv' := []) [] rfl ?_
      exact hK55 _
    · refine ev_aload_n dd_X9_staying_12 0 rfl ?_
      refine ev_iload_n dd_X9_staying_13 1 rfl ?_
      refine ev_iload_n dd_X9_staying_14 2 rfl ?_
      refine ev_callVI (As := [.int x1, .int x2]) cl_RX9_61 (ct_X9_sign l hl G x0 hx0 x1 x2 M) dd_X9_staying_15 hx0 (by decide) (Nat.le_of_ble_eq_true rfl) (Nat.le_of_ble_eq_true rfl) rfl rfl (fun r1 M1 => ?_)
      refine ev_istore_n (i := 3) (lv' := [(0, .ref (G.2.1 + x0)), (1, .int x1), (2, .int x2), (3, .int r1)]) [1, 2, 3, 0] dd_X9_staying_18 rfl (by decide) rfl ?_
      refine ev_iload_n dd_X9_staying_19 3 rfl ?_
      refine ev_iconst (v := 1) dd_X9_staying_20 (by decide) ?_
      refine ev_jo (fun (k1 : zM → zO) => ∀  (M2 : zM), zEv l G Y_X9_staying 2 0 47 [(2, .int x2)] [] M2 (k1 M2)) ?_ (fun k1 hk1 => ?_)
      · intro M2
        refine ev_iload_n dd_X9_staying_47 0 rfl ?_
        refine ev_lv (lv' := []) [] rfl ?_
        exact ev_iret dd_X9_staying_48 rfl (Nat.le_of_ble_eq_true rfl) rfl
      · refine ev_icmp_eq 47 dd_X9_staying_21 (by decide) ?_ ?_
        · refine ev_lv (lv' := [(2, .int x2)]) [2] rfl ?_
          exact hk1 _
        · refine ev_iload_n dd_X9_staying_24 3 rfl ?_
          refine ev_iconst (v := 5) dd_X9_staying_25 (by decide) ?_
          refine ev_icmp_eq 47 dd_X9_staying_26 (by decide) ?_ ?_
          · refine ev_lv (lv' := [(2, .int x2)]) [2] rfl ?_
            exact hk1 _
          · refine ev_iload_n dd_X9_staying_29 3 rfl ?_
            refine ev_bipush (v := 9) dd_X9_staying_30 (by decide) ?_
            refine ev_icmp_eq 47 dd_X9_staying_32 (by decide) ?_ ?_
            · refine ev_lv (lv' := [(2, .int x2)]) [2] rfl ?_
              exact hk1 _
            · refine ev_iload_n dd_X9_staying_35 3 rfl ?_
              refine ev_bipush (v := 15) dd_X9_staying_36 (by decide) ?_
              refine ev_icmp_eq 47 dd_X9_staying_38 (by decide) ?_ ?_
              · refine ev_lv (lv' := [(2, .int x2)]) [2] rfl ?_
                exact hk1 _
              · refine ev_iload_n dd_X9_staying_41 3 rfl ?_
                refine ev_lv (lv' := [(0, .ref (G.2.1 + x0)), (1, .int x1), (2, .int x2)]) [0, 1, 2] rfl ?_
                refine ev_bipush (v := 21) dd_X9_staying_42 (by decide) ?_
                refine ev_icmp_ne 49 dd_X9_staying_44 (by decide) ?_ ?_
                · refine ev_iinc (j := 2) (v := 1) (lv' := [(0, .ref (G.2.1 + x0)), (1, .int x1), (2, .int (x2 + 1))]) [1, 2, 0] dd_X9_staying_49 rfl (by decide) (by decide) rfl ?_
                  refine ev_goto 2 dd_X9_staying_52 (by decide) ?_
                  exact ih _ _
                · refine ev_lv (lv' := [(2, .int x2)]) [2] rfl ?_
                  exact hk1 _
set_option maxHeartbeats 1000000 in
set_option maxRecDepth 20000 in
theorem ct_X9_staying (l : Launch) (hl : l.stackTraces = false) (G : zG) (t : Nat) (ht : zsh t = 9) (a1 : Int32) (M : zM) : zMt l G Y_X9_staying 2 [.ref (G.2.1 + t), .int a1] M (F_X9_staying t a1 M) := by
  refine zMt_of (by decide +kernel) (Nat.le_of_ble_eq_true rfl) ?_
  show zEv l G Y_X9_staying 2 0 0 [(0, .ref (G.2.1 + t)), (1, .int a1)] [] M (F_X9_staying_L2 t a1 (fun  (M3 : zM) => zI 0 M3) zN 0 M)
  refine ev_iconst (v := 0) dd_X9_staying_0 (by decide) ?_
  refine ev_istore_n (i := 2) (lv' := [(0, .ref (G.2.1 + t)), (1, .int a1), (2, .int 0)]) [1, 2, 0] dd_X9_staying_1 rfl (by decide) rfl ?_
  refine ct_X9_staying_L2 l hl G t ht a1 _ (fun M3 => ?_) zN _ _
  refine ev_iconst (v := 0) dd_X9_staying_55 (by decide) ?_
  exact ev_iret dd_X9_staying_56 rfl (Nat.le_of_ble_eq_true rfl) rfl
/-! X9_wornEnd -/
theorem dd_X9_wornEnd_0 : decode Y_X9_wornEnd.2.1 0 = .ok (.aload_n 0, 1) := by decide +kernel
theorem dd_X9_wornEnd_1 : decode Y_X9_wornEnd.2.1 1 = .ok (.iload_n 1, 1) := by decide +kernel
theorem dd_X9_wornEnd_2 : decode Y_X9_wornEnd.2.1 2 = .ok (.invokevirtual 78, 3) := by decide +kernel
theorem dd_X9_wornEnd_5 : decode Y_X9_wornEnd.2.1 5 = .ok (.iconst 1, 1) := by decide +kernel
theorem dd_X9_wornEnd_6 : decode Y_X9_wornEnd.2.1 6 = .ok (.iadd, 1) := by decide +kernel
theorem dd_X9_wornEnd_7 : decode Y_X9_wornEnd.2.1 7 = .ok (.aload_n 0, 1) := by decide +kernel
theorem dd_X9_wornEnd_8 : decode Y_X9_wornEnd.2.1 8 = .ok (.getfield 15, 3) := by decide +kernel
theorem dd_X9_wornEnd_11 : decode Y_X9_wornEnd.2.1 11 = .ok (.iload_n 1, 1) := by decide +kernel
theorem dd_X9_wornEnd_12 : decode Y_X9_wornEnd.2.1 12 = .ok (.iaload, 1) := by decide +kernel
theorem dd_X9_wornEnd_13 : decode Y_X9_wornEnd.2.1 13 = .ok (.iload_n 2, 1) := by decide +kernel
theorem dd_X9_wornEnd_14 : decode Y_X9_wornEnd.2.1 14 = .ok (.isub, 1) := by decide +kernel
theorem dd_X9_wornEnd_15 : decode Y_X9_wornEnd.2.1 15 = .ok (.invokestatic 81, 3) := by decide +kernel
theorem dd_X9_wornEnd_18 : decode Y_X9_wornEnd.2.1 18 = .ok (.ireturn, 1) := by decide +kernel
def F_X9_wornEnd (t : Nat) (a1 : Int32) (a2 : Int32) (M : zM) : zO := zbI (F_X9_staying t a1 M) (fun r1 M1 => zck (zin a1 8) (zI (if (r1 + 1) < ((M1 (zgr t 1) (zix a1)) - a2) then (M1 (zgr t 1) (zix a1)) - a2 else r1 + 1) M1))
set_option maxHeartbeats 1000000 in
set_option maxRecDepth 20000 in
theorem ct_X9_wornEnd (l : Launch) (hl : l.stackTraces = false) (G : zG) (t : Nat) (ht : zsh t = 9) (a1 : Int32) (a2 : Int32) (M : zM) : zMt l G Y_X9_wornEnd 8 [.ref (G.2.1 + t), .int a1, .int a2] M (F_X9_wornEnd t a1 a2 M) := by
  refine zMt_of (by decide +kernel) (Nat.le_of_ble_eq_true rfl) ?_
  show zEv l G Y_X9_wornEnd 8 0 0 [(0, .ref (G.2.1 + t)), (1, .int a1), (2, .int a2)] [] M (zbI (F_X9_staying t a1 M) (fun r1 M1 => zck (zin a1 8) (zI (if (r1 + 1) < ((M1 (zgr t 1) (zix a1)) - a2) then (M1 (zgr t 1) (zix a1)) - a2 else r1 + 1) M1)))
  refine ev_aload_n dd_X9_wornEnd_0 0 rfl ?_
  refine ev_iload_n dd_X9_wornEnd_1 1 rfl ?_
  refine ev_callVI (As := [.int a1]) cl_RX9_78 (ct_X9_staying l hl G t ht a1 M) dd_X9_wornEnd_2 ht (by decide) (Nat.le_of_ble_eq_true rfl) (Nat.le_of_ble_eq_true rfl) rfl rfl (fun r1 M1 => ?_)
  refine ev_iconst (v := 1) dd_X9_wornEnd_5 (by decide) ?_
  refine ev_iadd dd_X9_wornEnd_6 ?_
  refine ev_aload_n dd_X9_wornEnd_7 0 rfl ?_
  refine ev_lv (lv' := [(1, .int a1), (2, .int a2)]) [1, 2] rfl ?_
  refine ev_getR gf_RX9_15 dd_X9_wornEnd_8 ht (by decide) ?_
  refine ev_iload_n dd_X9_wornEnd_11 0 rfl ?_
  refine ev_lv (lv' := [(2, .int a2)]) [1] rfl ?_
  refine ev_iald dd_X9_wornEnd_12 ((zg_9_1 ht).1) ((zg_9_1 ht).2) ?_
  refine ev_iload_n dd_X9_wornEnd_13 0 rfl ?_
  refine ev_lv (lv' := []) [] rfl ?_
  refine ev_isub dd_X9_wornEnd_14 ?_
  refine ev_mmax mw_RX9_81 dd_X9_wornEnd_15 (Nat.le_of_ble_eq_true rfl) (Nat.le_of_ble_eq_true rfl) ?_
  exact ev_iret dd_X9_wornEnd_18 rfl (Nat.le_of_ble_eq_true rfl) rfl
