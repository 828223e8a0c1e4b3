/-! the helpers with handlers, by program (mklaw.py) -/
abbrev Y_L_caravan : zY := (yL_caravan, cL_caravan, 4, (some .int), 1, [(0, 9, 12, 18)])
abbrev Y_L_century : zY := (yL_century, cL_century, 6, (some .int), 2, [(0, 12, 15, 18), (0, 12, 19, 13)])
abbrev Y_L_clerks : zY := (yL_clerks, cL_clerks, 6, (some .int), 4, [(0, 12, 15, 18), (0, 12, 19, 13)])
abbrev Y_L_count : zY := (yL_count, cL_count, 4, (some .int), 1, [(0, 9, 12, 18)])
abbrev Y_L_debt : zY := (yL_debt, cL_debt, 5, (some .int), 3, [(0, 10, 13, 18), (0, 10, 17, 13)])
abbrev Y_L_forgive : zY := (yL_forgive, cL_forgive, 5, (some .int), 3, [(0, 10, 13, 18), (0, 10, 17, 13)])
abbrev Y_L_glad : zY := (yL_glad, cL_glad, 4, (some .int), 1, [(0, 9, 12, 18)])
abbrev Y_L_has : zY := (yL_has, cL_has, 4, (some .int), 1, [(0, 9, 12, 18)])
abbrev Y_L_inside : zY := (yL_inside, cL_inside, 5, (some .int), 2, [(0, 17, 20, 18)])
abbrev Y_L_joined : zY := (yL_joined, cL_joined, 6, (some .int), 4, [(0, 12, 15, 18), (0, 12, 19, 13)])
abbrev Y_L_letter : zY := (yL_letter, cL_letter, 5, (some .int), 2, [(0, 10, 13, 18)])
abbrev Y_L_lies : zY := (yL_lies, cL_lies, 5, (some .int), 3, [(0, 10, 13, 18), (0, 10, 17, 13)])
abbrev Y_L_look : zY := (yL_look, cL_look, 4, (some .int), 1, [(0, 9, 12, 13)])
abbrev Y_L_may : zY := (yL_may, cL_may, 5, (some .int), 3, [(0, 17, 20, 18), (0, 17, 24, 13)])
abbrev Y_L_name : zY := (yL_name, cL_name, 5, (some .int), 2, [(0, 10, 13, 18)])
abbrev Y_L_owed : zY := (yL_owed, cL_owed, 4, (some .int), 1, [(0, 9, 12, 18)])
abbrev Y_L_prefers : zY := (yL_prefers, cL_prefers, 6, (some .int), 3, [(0, 19, 22, 18)])
abbrev Y_L_round : zY := (yL_round, cL_round, 4, (some .int), 1, [(0, 9, 12, 18)])
abbrev Y_L_sales : zY := (yL_sales, cL_sales, 5, (some .int), 2, [(0, 10, 13, 18), (0, 10, 17, 13)])
abbrev Y_L_sea : zY := (yL_sea, cL_sea, 4, (some .int), 1, [(0, 9, 12, 13)])
abbrev Y_L_see : zY := (yL_see, cL_see, 5, (some .int), 2, [(0, 10, 13, 18)])
abbrev Y_L_ship : zY := (yL_ship, cL_ship, 6, (some .int), 3, [(0, 12, 15, 18), (0, 12, 19, 13)])
abbrev Y_L_shortest : zY := (yL_shortest, cL_shortest, 5, (some .int), 2, [(0, 10, 13, 18), (0, 10, 17, 13)])
abbrev Y_L_swap : zY := (yL_swap, cL_swap, 5, (some .int), 2, [(0, 10, 13, 18)])
abbrev Y_L_swaps : zY := (yL_swaps, cL_swaps, 5, (some .int), 1, [(0, 10, 13, 18), (0, 10, 17, 13)])
abbrev Y_L_tide : zY := (yL_tide, cL_tide, 4, (some .int), 1, [(0, 9, 12, 13)])
abbrev Y_L_weather : zY := (yL_weather, cL_weather, 6, (some .int), 3, [(0, 12, 15, 13)])
abbrev Y_L_worn : zY := (yL_worn, cL_worn, 6, (some .int), 3, [(0, 12, 15, 18), (0, 12, 19, 13)])
theorem lc_RL_13 : Cond.classLink RL 13 "java/lang/IllegalArgumentException" ∈ zT := (zmem 694 (by decide +kernel) (by decide +kernel))
theorem lc_RL_18 : Cond.classLink RL 18 "java/util/NoSuchElementException" ∈ zT := (zmem 1068 (by decide +kernel) (by decide +kernel))
theorem cl_RL_7 : zCl RL 7 11 1 Y_X11_sea := ⟨⟨⟨by decide +kernel, by decide +kernel⟩, by decide, (zmem 698 (by decide +kernel) (by decide +kernel)), (zmem 102 (by decide +kernel) (by decide +kernel))⟩, (zmem 695 (by decide +kernel) (by decide +kernel)), (zmem 696 (by decide +kernel) (by decide +kernel)), (zmem 697 (by decide +kernel) (by decide +kernel)), ⟨_, rfl, rfl⟩, by decide, by decide +kernel⟩
theorem cl_RL_15 : zCl RL 15 11 1 Y_X11_count := ⟨⟨⟨by decide +kernel, by decide +kernel⟩, by decide, (zmem 1072 (by decide +kernel) (by decide +kernel)), (zmem 102 (by decide +kernel) (by decide +kernel))⟩, (zmem 1069 (by decide +kernel) (by decide +kernel)), (zmem 1070 (by decide +kernel) (by decide +kernel)), (zmem 1071 (by decide +kernel) (by decide +kernel)), ⟨_, rfl, rfl⟩, by decide, by decide +kernel⟩
theorem cl_RL_20 : zCl RL 20 11 2 Y_X11_name := ⟨⟨⟨by decide +kernel, by decide +kernel⟩, by decide, (zmem 1099 (by decide +kernel) (by decide +kernel)), (zmem 102 (by decide +kernel) (by decide +kernel))⟩, (zmem 1096 (by decide +kernel) (by decide +kernel)), (zmem 1097 (by decide +kernel) (by decide +kernel)), (zmem 1098 (by decide +kernel) (by decide +kernel)), ⟨_, rfl, rfl⟩, by decide, by decide +kernel⟩
theorem cl_RL_24 : zCl RL 24 11 2 Y_X11_letter := ⟨⟨⟨by decide +kernel, by decide +kernel⟩, by decide, (zmem 1116 (by decide +kernel) (by decide +kernel)), (zmem 102 (by decide +kernel) (by decide +kernel))⟩, (zmem 1113 (by decide +kernel) (by decide +kernel)), (zmem 1114 (by decide +kernel) (by decide +kernel)), (zmem 1115 (by decide +kernel) (by decide +kernel)), ⟨_, rfl, rfl⟩, by decide, by decide +kernel⟩
theorem cl_RL_27 : zCl RL 27 11 1 Y_X11_has := ⟨⟨⟨by decide +kernel, by decide +kernel⟩, by decide, (zmem 1128 (by decide +kernel) (by decide +kernel)), (zmem 102 (by decide +kernel) (by decide +kernel))⟩, (zmem 1125 (by decide +kernel) (by decide +kernel)), (zmem 1126 (by decide +kernel) (by decide +kernel)), (zmem 1127 (by decide +kernel) (by decide +kernel)), ⟨_, rfl, rfl⟩, by decide, by decide +kernel⟩
theorem cl_RL_30 : zCl RL 30 11 2 Y_X11_debt := ⟨⟨⟨by decide +kernel, by decide +kernel⟩, by decide, (zmem 1140 (by decide +kernel) (by decide +kernel)), (zmem 102 (by decide +kernel) (by decide +kernel))⟩, (zmem 1137 (by decide +kernel) (by decide +kernel)), (zmem 1138 (by decide +kernel) (by decide +kernel)), (zmem 1139 (by decide +kernel) (by decide +kernel)), ⟨_, rfl, rfl⟩, by decide, by decide +kernel⟩
theorem cl_RL_33 : zCl RL 33 11 2 Y_X11_may := ⟨⟨⟨by decide +kernel, by decide +kernel⟩, by decide, (zmem 1156 (by decide +kernel) (by decide +kernel)), (zmem 102 (by decide +kernel) (by decide +kernel))⟩, (zmem 1153 (by decide +kernel) (by decide +kernel)), (zmem 1154 (by decide +kernel) (by decide +kernel)), (zmem 1155 (by decide +kernel) (by decide +kernel)), ⟨_, rfl, rfl⟩, by decide, by decide +kernel⟩
theorem cl_RL_37 : zCl RL 37 11 2 Y_X11_swap := ⟨⟨⟨by decide +kernel, by decide +kernel⟩, by decide, (zmem 1164 (by decide +kernel) (by decide +kernel)), (zmem 102 (by decide +kernel) (by decide +kernel))⟩, (zmem 1161 (by decide +kernel) (by decide +kernel)), (zmem 1162 (by decide +kernel) (by decide +kernel)), (zmem 1163 (by decide +kernel) (by decide +kernel)), ⟨_, rfl, rfl⟩, by decide, by decide +kernel⟩
theorem cl_RL_40 : zCl RL 40 11 2 Y_X11_forgive := ⟨⟨⟨by decide +kernel, by decide +kernel⟩, by decide, (zmem 1172 (by decide +kernel) (by decide +kernel)), (zmem 102 (by decide +kernel) (by decide +kernel))⟩, (zmem 1169 (by decide +kernel) (by decide +kernel)), (zmem 1170 (by decide +kernel) (by decide +kernel)), (zmem 1171 (by decide +kernel) (by decide +kernel)), ⟨_, rfl, rfl⟩, by decide, by decide +kernel⟩
theorem cl_RL_43 : zCl RL 43 11 3 Y_X11_prefers := ⟨⟨⟨by decide +kernel, by decide +kernel⟩, by decide, (zmem 1180 (by decide +kernel) (by decide +kernel)), (zmem 102 (by decide +kernel) (by decide +kernel))⟩, (zmem 1177 (by decide +kernel) (by decide +kernel)), (zmem 1178 (by decide +kernel) (by decide +kernel)), (zmem 1179 (by decide +kernel) (by decide +kernel)), ⟨_, rfl, rfl⟩, by decide, by decide +kernel⟩
theorem cl_RL_47 : zCl RL 47 11 1 Y_X11_glad := ⟨⟨⟨by decide +kernel, by decide +kernel⟩, by decide, (zmem 1188 (by decide +kernel) (by decide +kernel)), (zmem 102 (by decide +kernel) (by decide +kernel))⟩, (zmem 1185 (by decide +kernel) (by decide +kernel)), (zmem 1186 (by decide +kernel) (by decide +kernel)), (zmem 1187 (by decide +kernel) (by decide +kernel)), ⟨_, rfl, rfl⟩, by decide, by decide +kernel⟩
theorem cl_RL_50 : zCl RL 50 11 1 Y_X11_round := ⟨⟨⟨by decide +kernel, by decide +kernel⟩, by decide, (zmem 1207 (by decide +kernel) (by decide +kernel)), (zmem 102 (by decide +kernel) (by decide +kernel))⟩, (zmem 1204 (by decide +kernel) (by decide +kernel)), (zmem 1205 (by decide +kernel) (by decide +kernel)), (zmem 1206 (by decide +kernel) (by decide +kernel)), ⟨_, rfl, rfl⟩, by decide, by decide +kernel⟩
theorem cl_RL_53 : zCl RL 53 11 2 Y_X11_swaps := ⟨⟨⟨by decide +kernel, by decide +kernel⟩, by decide, (zmem 1235 (by decide +kernel) (by decide +kernel)), (zmem 102 (by decide +kernel) (by decide +kernel))⟩, (zmem 1232 (by decide +kernel) (by decide +kernel)), (zmem 1233 (by decide +kernel) (by decide +kernel)), (zmem 1234 (by decide +kernel) (by decide +kernel)), ⟨_, rfl, rfl⟩, by decide, by decide +kernel⟩
theorem cl_RL_56 : zCl RL 56 11 3 Y_X11_ship := ⟨⟨⟨by decide +kernel, by decide +kernel⟩, by decide, (zmem 1298 (by decide +kernel) (by decide +kernel)), (zmem 102 (by decide +kernel) (by decide +kernel))⟩, (zmem 1295 (by decide +kernel) (by decide +kernel)), (zmem 1296 (by decide +kernel) (by decide +kernel)), (zmem 1297 (by decide +kernel) (by decide +kernel)), ⟨_, rfl, rfl⟩, by decide, by decide +kernel⟩
theorem cl_RL_60 : zCl RL 60 11 3 Y_X11_joined := ⟨⟨⟨by decide +kernel, by decide +kernel⟩, by decide, (zmem 1322 (by decide +kernel) (by decide +kernel)), (zmem 102 (by decide +kernel) (by decide +kernel))⟩, (zmem 1319 (by decide +kernel) (by decide +kernel)), (zmem 1320 (by decide +kernel) (by decide +kernel)), (zmem 1321 (by decide +kernel) (by decide +kernel)), ⟨_, rfl, rfl⟩, by decide, by decide +kernel⟩
theorem cl_RL_63 : zCl RL 63 11 2 Y_X11_inside := ⟨⟨⟨by decide +kernel, by decide +kernel⟩, by decide, (zmem 1341 (by decide +kernel) (by decide +kernel)), (zmem 102 (by decide +kernel) (by decide +kernel))⟩, (zmem 1338 (by decide +kernel) (by decide +kernel)), (zmem 1339 (by decide +kernel) (by decide +kernel)), (zmem 1340 (by decide +kernel) (by decide +kernel)), ⟨_, rfl, rfl⟩, by decide, by decide +kernel⟩
theorem cl_RL_66 : zCl RL 66 11 2 Y_X11_shortest := ⟨⟨⟨by decide +kernel, by decide +kernel⟩, by decide, (zmem 1352 (by decide +kernel) (by decide +kernel)), (zmem 102 (by decide +kernel) (by decide +kernel))⟩, (zmem 1349 (by decide +kernel) (by decide +kernel)), (zmem 1350 (by decide +kernel) (by decide +kernel)), (zmem 1351 (by decide +kernel) (by decide +kernel)), ⟨_, rfl, rfl⟩, by decide, by decide +kernel⟩
theorem cl_RL_69 : zCl RL 69 11 3 Y_X11_worn := ⟨⟨⟨by decide +kernel, by decide +kernel⟩, by decide, (zmem 1381 (by decide +kernel) (by decide +kernel)), (zmem 102 (by decide +kernel) (by decide +kernel))⟩, (zmem 1378 (by decide +kernel) (by decide +kernel)), (zmem 1379 (by decide +kernel) (by decide +kernel)), (zmem 1380 (by decide +kernel) (by decide +kernel)), ⟨_, rfl, rfl⟩, by decide, by decide +kernel⟩
theorem cl_RL_72 : zCl RL 72 11 1 Y_X11_tide := ⟨⟨⟨by decide +kernel, by decide +kernel⟩, by decide, (zmem 1402 (by decide +kernel) (by decide +kernel)), (zmem 102 (by decide +kernel) (by decide +kernel))⟩, (zmem 1399 (by decide +kernel) (by decide +kernel)), (zmem 1400 (by decide +kernel) (by decide +kernel)), (zmem 1401 (by decide +kernel) (by decide +kernel)), ⟨_, rfl, rfl⟩, by decide, by decide +kernel⟩
theorem cl_RL_75 : zCl RL 75 11 2 Y_X11_lies := ⟨⟨⟨by decide +kernel, by decide +kernel⟩, by decide, (zmem 1415 (by decide +kernel) (by decide +kernel)), (zmem 102 (by decide +kernel) (by decide +kernel))⟩, (zmem 1412 (by decide +kernel) (by decide +kernel)), (zmem 1413 (by decide +kernel) (by decide +kernel)), (zmem 1414 (by decide +kernel) (by decide +kernel)), ⟨_, rfl, rfl⟩, by decide, by decide +kernel⟩
theorem cl_RL_78 : zCl RL 78 11 2 Y_X11_see := ⟨⟨⟨by decide +kernel, by decide +kernel⟩, by decide, (zmem 1422 (by decide +kernel) (by decide +kernel)), (zmem 102 (by decide +kernel) (by decide +kernel))⟩, (zmem 1419 (by decide +kernel) (by decide +kernel)), (zmem 1420 (by decide +kernel) (by decide +kernel)), (zmem 1421 (by decide +kernel) (by decide +kernel)), ⟨_, rfl, rfl⟩, by decide, by decide +kernel⟩
theorem cl_RL_81 : zCl RL 81 11 2 Y_X11_sales := ⟨⟨⟨by decide +kernel, by decide +kernel⟩, by decide, (zmem 1433 (by decide +kernel) (by decide +kernel)), (zmem 102 (by decide +kernel) (by decide +kernel))⟩, (zmem 1430 (by decide +kernel) (by decide +kernel)), (zmem 1431 (by decide +kernel) (by decide +kernel)), (zmem 1432 (by decide +kernel) (by decide +kernel)), ⟨_, rfl, rfl⟩, by decide, by decide +kernel⟩
theorem cl_RL_84 : zCl RL 84 11 1 Y_X11_look := ⟨⟨⟨by decide +kernel, by decide +kernel⟩, by decide, (zmem 1468 (by decide +kernel) (by decide +kernel)), (zmem 102 (by decide +kernel) (by decide +kernel))⟩, (zmem 1465 (by decide +kernel) (by decide +kernel)), (zmem 1466 (by decide +kernel) (by decide +kernel)), (zmem 1467 (by decide +kernel) (by decide +kernel)), ⟨_, rfl, rfl⟩, by decide, by decide +kernel⟩
theorem cl_RL_87 : zCl RL 87 11 3 Y_X11_clerks := ⟨⟨⟨by decide +kernel, by decide +kernel⟩, by decide, (zmem 1480 (by decide +kernel) (by decide +kernel)), (zmem 102 (by decide +kernel) (by decide +kernel))⟩, (zmem 1477 (by decide +kernel) (by decide +kernel)), (zmem 1478 (by decide +kernel) (by decide +kernel)), (zmem 1479 (by decide +kernel) (by decide +kernel)), ⟨_, rfl, rfl⟩, by decide, by decide +kernel⟩
theorem cl_RL_90 : zCl RL 90 11 3 Y_X11_century := ⟨⟨⟨by decide +kernel, by decide +kernel⟩, by decide, (zmem 1496 (by decide +kernel) (by decide +kernel)), (zmem 102 (by decide +kernel) (by decide +kernel))⟩, (zmem 1493 (by decide +kernel) (by decide +kernel)), (zmem 1494 (by decide +kernel) (by decide +kernel)), (zmem 1495 (by decide +kernel) (by decide +kernel)), ⟨_, rfl, rfl⟩, by decide, by decide +kernel⟩
theorem cl_RL_93 : zCl RL 93 11 3 Y_X11_weather := ⟨⟨⟨by decide +kernel, by decide +kernel⟩, by decide, (zmem 1514 (by decide +kernel) (by decide +kernel)), (zmem 102 (by decide +kernel) (by decide +kernel))⟩, (zmem 1511 (by decide +kernel) (by decide +kernel)), (zmem 1512 (by decide +kernel) (by decide +kernel)), (zmem 1513 (by decide +kernel) (by decide +kernel)), ⟨_, rfl, rfl⟩, by decide, by decide +kernel⟩
theorem cl_RL_96 : zCl RL 96 11 1 Y_X11_owed := ⟨⟨⟨by decide +kernel, by decide +kernel⟩, by decide, (zmem 1521 (by decide +kernel) (by decide +kernel)), (zmem 102 (by decide +kernel) (by decide +kernel))⟩, (zmem 1518 (by decide +kernel) (by decide +kernel)), (zmem 1519 (by decide +kernel) (by decide +kernel)), (zmem 1520 (by decide +kernel) (by decide +kernel)), ⟨_, rfl, rfl⟩, by decide, by decide +kernel⟩
theorem cl_RL_99 : zCl RL 99 11 1 Y_X11_caravan := ⟨⟨⟨by decide +kernel, by decide +kernel⟩, by decide, (zmem 1532 (by decide +kernel) (by decide +kernel)), (zmem 102 (by decide +kernel) (by decide +kernel))⟩, (zmem 1529 (by decide +kernel) (by decide +kernel)), (zmem 1530 (by decide +kernel) (by decide +kernel)), (zmem 1531 (by decide +kernel) (by decide +kernel)), ⟨_, rfl, rfl⟩, by decide, by decide +kernel⟩
theorem dd_L_caravan_0 : decode Y_L_caravan.2.1 0 = .ok (.aload_n 2, 1) := by decide +kernel
theorem dd_L_caravan_1 : decode Y_L_caravan.2.1 1 = .ok (.iconst 0, 1) := by decide +kernel
theorem dd_L_caravan_2 : decode Y_L_caravan.2.1 2 = .ok (.aload_n 0, 1) := by decide +kernel
theorem dd_L_caravan_3 : decode Y_L_caravan.2.1 3 = .ok (.iload_n 1, 1) := by decide +kernel
theorem dd_L_caravan_4 : decode Y_L_caravan.2.1 4 = .ok (.invokevirtual 99, 3) := by decide +kernel
theorem dd_L_caravan_7 : decode Y_L_caravan.2.1 7 = .ok (.i2l, 1) := by decide +kernel
theorem dd_L_caravan_8 : decode Y_L_caravan.2.1 8 = .ok (.lastore, 1) := by decide +kernel
theorem dd_L_caravan_9 : decode Y_L_caravan.2.1 9 = .ok (.goto 6, 3) := by decide +kernel
theorem dd_L_caravan_12 : decode Y_L_caravan.2.1 12 = .ok (.astore_n 3, 1) := by decide +kernel
theorem dd_L_caravan_13 : decode Y_L_caravan.2.1 13 = .ok (.iconst 1, 1) := by decide +kernel
theorem dd_L_caravan_14 : decode Y_L_caravan.2.1 14 = .ok (.ireturn, 1) := by decide +kernel
theorem dd_L_caravan_15 : decode Y_L_caravan.2.1 15 = .ok (.iconst 0, 1) := by decide +kernel
theorem dd_L_caravan_16 : decode Y_L_caravan.2.1 16 = .ok (.ireturn, 1) := by decide +kernel
def F_L_caravan (a0 : Nat) (a1 : Int32) (a2 : Nat) (M : zM) : zO := zbH (F_X11_caravan a0 a1 M) (fun r1 M1 => zck (zin 0 (zal a2)) (zst (zupB M1 a2 (zix 0) r1.toInt64) (fun M2 => zI 0 M2))) (fun E Mh => zit (E = "java/util/NoSuchElementException") (zI 1 Mh) (none))
set_option maxHeartbeats 2000000 in
set_option maxRecDepth 50000 in
theorem ct_L_caravan (l : Launch) (hl : l.stackTraces = false) (G : zG) (a0 : Nat) (ha0 : zsh a0 = 11) (a1 : Int32) (a2 : Nat) (ha2 : zsh a2 = 23) (M : zM) : zMh l G Y_L_caravan 3 [.ref (G.2.1 + a0), .int a1, .ref (G.2.1 + a2)] M (F_L_caravan a0 a1 a2 M) := by
  refine zMh_of (by decide +kernel) (Nat.le_of_ble_eq_true rfl) ?_
  show zEv l G Y_L_caravan 3 0 0 [(0, .ref (G.2.1 + a0)), (1, .int a1), (2, .ref (G.2.1 + a2))] [] M (zbH (F_X11_caravan a0 a1 M) (fun r1 M1 => zck (zin 0 (zal a2)) (zst (zupB M1 a2 (zix 0) r1.toInt64) (fun M2 => zI 0 M2))) (fun E Mh => zit (E = "java/util/NoSuchElementException") (zI 1 Mh) (none)))
  refine ev_aload_n dd_L_caravan_0 2 rfl ?_
  refine ev_lv (lv' := [(0, .ref (G.2.1 + a0)), (1, .int a1)]) [0, 1] rfl ?_
  refine ev_iconst (v := 0) dd_L_caravan_1 (by decide) ?_
  refine ev_aload_n dd_L_caravan_2 0 rfl ?_
  refine ev_lv (lv' := [(1, .int a1)]) [1] rfl ?_
  refine ev_iload_n dd_L_caravan_3 0 rfl ?_
  refine ev_lv (lv' := []) [] rfl ?_
  refine ev_callVH (As := [.int a1]) cl_RL_99 (ct_X11_caravan l hl G a0 ha0 a1 M) dd_L_caravan_4 ha0 (by decide) (Nat.le_of_ble_eq_true rfl) (Nat.le_of_ble_eq_true rfl) rfl rfl (fun r1 M1 => ?_) (fun E Mh hne => ?_)
  · refine ev_i2l dd_L_caravan_7 ?_
    refine ev_last dd_L_caravan_8 ha2 rfl ?_
    refine ev_st (fun M2 => ?_)
    refine ev_goto 15 dd_L_caravan_9 (by decide) ?_
    refine ev_iconst (v := 0) dd_L_caravan_15 (by decide) ?_
    exact ev_iret dd_L_caravan_16 rfl (Nat.le_of_ble_eq_true rfl) rfl
  · by_cases hE0 : E = "java/util/NoSuchElementException"
    · subst hE0
      refine ⟨[], ⟨0, 9, 12, 18⟩, [], rfl, (fun z hz => absurd hz List.not_mem_nil), by decide, by decide, lc_RL_18, by decide +kernel, fun q1 => ?_⟩
      refine ev_it (fun _ => ?_) (fun z => absurd rfl z)
      refine ev_astore_n (i := 3) (lv' := []) [] dd_L_caravan_12 rfl (by decide) rfl ?_
      refine ev_iconst (v := 1) dd_L_caravan_13 (by decide) ?_
      exact ev_iret dd_L_caravan_14 rfl (Nat.le_of_ble_eq_true rfl) rfl
    exact absurd (by unfold zit; rw [if_neg hE0]) hne
theorem dd_L_century_0 : decode Y_L_century.2.1 0 = .ok (.aload 4, 2) := by decide +kernel
theorem dd_L_century_2 : decode Y_L_century.2.1 2 = .ok (.iconst 0, 1) := by decide +kernel
theorem dd_L_century_3 : decode Y_L_century.2.1 3 = .ok (.aload_n 0, 1) := by decide +kernel
theorem dd_L_century_4 : decode Y_L_century.2.1 4 = .ok (.iload_n 1, 1) := by decide +kernel
theorem dd_L_century_5 : decode Y_L_century.2.1 5 = .ok (.iload_n 2, 1) := by decide +kernel
theorem dd_L_century_6 : decode Y_L_century.2.1 6 = .ok (.iload_n 3, 1) := by decide +kernel
theorem dd_L_century_7 : decode Y_L_century.2.1 7 = .ok (.invokevirtual 90, 3) := by decide +kernel
theorem dd_L_century_10 : decode Y_L_century.2.1 10 = .ok (.i2l, 1) := by decide +kernel
theorem dd_L_century_11 : decode Y_L_century.2.1 11 = .ok (.lastore, 1) := by decide +kernel
theorem dd_L_century_12 : decode Y_L_century.2.1 12 = .ok (.goto 11, 3) := by decide +kernel
theorem dd_L_century_15 : decode Y_L_century.2.1 15 = .ok (.astore 5, 2) := by decide +kernel
theorem dd_L_century_17 : decode Y_L_century.2.1 17 = .ok (.iconst 1, 1) := by decide +kernel
theorem dd_L_century_18 : decode Y_L_century.2.1 18 = .ok (.ireturn, 1) := by decide +kernel
theorem dd_L_century_19 : decode Y_L_century.2.1 19 = .ok (.astore 5, 2) := by decide +kernel
theorem dd_L_century_21 : decode Y_L_century.2.1 21 = .ok (.iconst 2, 1) := by decide +kernel
theorem dd_L_century_22 : decode Y_L_century.2.1 22 = .ok (.ireturn, 1) := by decide +kernel
theorem dd_L_century_23 : decode Y_L_century.2.1 23 = .ok (.iconst 0, 1) := by decide +kernel
theorem dd_L_century_24 : decode Y_L_century.2.1 24 = .ok (.ireturn, 1) := by decide +kernel
def F_L_century (a0 : Nat) (a1 : Int32) (a2 : Int32) (a3 : Int32) (a4 : Nat) (M : zM) : zO := zbH (F_X11_century a0 a1 a2 a3 M) (fun r1 M1 => zck (zin 0 (zal a4)) (zst (zupB M1 a4 (zix 0) r1.toInt64) (fun M2 => zI 0 M2))) (fun E Mh => zit (E = "java/util/NoSuchElementException") (zI 1 Mh) (zit (E = "java/lang/IllegalArgumentException") (zI 2 Mh) (none)))
set_option maxHeartbeats 2000000 in
set_option maxRecDepth 50000 in
theorem ct_L_century (l : Launch) (hl : l.stackTraces = false) (G : zG) (a0 : Nat) (ha0 : zsh a0 = 11) (a1 : Int32) (a2 : Int32) (a3 : Int32) (a4 : Nat) (ha4 : zsh a4 = 23) (M : zM) : zMh l G Y_L_century 15 [.ref (G.2.1 + a0), .int a1, .int a2, .int a3, .ref (G.2.1 + a4)] M (F_L_century a0 a1 a2 a3 a4 M) := by
  refine zMh_of (by decide +kernel) (Nat.le_of_ble_eq_true rfl) ?_
  show zEv l G Y_L_century 15 0 0 [(0, .ref (G.2.1 + a0)), (1, .int a1), (2, .int a2), (3, .int a3), (4, .ref (G.2.1 + a4))] [] M (zbH (F_X11_century a0 a1 a2 a3 M) (fun r1 M1 => zck (zin 0 (zal a4)) (zst (zupB M1 a4 (zix 0) r1.toInt64) (fun M2 => zI 0 M2))) (fun E Mh => zit (E = "java/util/NoSuchElementException") (zI 1 Mh) (zit (E = "java/lang/IllegalArgumentException") (zI 2 Mh) (none))))
  refine ev_aload dd_L_century_0 4 rfl ?_
  refine ev_lv (lv' := [(0, .ref (G.2.1 + a0)), (1, .int a1), (2, .int a2), (3, .int a3)]) [0, 1, 2, 3] rfl ?_
  refine ev_iconst (v := 0) dd_L_century_2 (by decide) ?_
  refine ev_aload_n dd_L_century_3 0 rfl ?_
  refine ev_lv (lv' := [(1, .int a1), (2, .int a2), (3, .int a3)]) [1, 2, 3] rfl ?_
  refine ev_iload_n dd_L_century_4 0 rfl ?_
  refine ev_lv (lv' := [(2, .int a2), (3, .int a3)]) [1, 2] rfl ?_
  refine ev_iload_n dd_L_century_5 0 rfl ?_
  refine ev_lv (lv' := [(3, .int a3)]) [1] rfl ?_
  refine ev_iload_n dd_L_century_6 0 rfl ?_
  refine ev_lv (lv' := []) [] rfl ?_
  refine ev_callVH (As := [.int a1, .int a2, .int a3]) cl_RL_90 (ct_X11_century l hl G a0 ha0 a1 a2 a3 M) dd_L_century_7 ha0 (by decide) (Nat.le_of_ble_eq_true rfl) (Nat.le_of_ble_eq_true rfl) rfl rfl (fun r1 M1 => ?_) (fun E Mh hne => ?_)
  · refine ev_i2l dd_L_century_10 ?_
    refine ev_last dd_L_century_11 ha4 rfl ?_
    refine ev_st (fun M2 => ?_)
    refine ev_goto 23 dd_L_century_12 (by decide) ?_
    refine ev_iconst (v := 0) dd_L_century_23 (by decide) ?_
    exact ev_iret dd_L_century_24 rfl (Nat.le_of_ble_eq_true rfl) rfl
  · by_cases hE0 : E = "java/util/NoSuchElementException"
    · subst hE0
      refine ⟨[], ⟨0, 12, 15, 18⟩, [⟨0, 12, 19, 13⟩], rfl, (fun z hz => absurd hz List.not_mem_nil), by decide, by decide, lc_RL_18, by decide +kernel, fun q1 => ?_⟩
      refine ev_it (fun _ => ?_) (fun z => absurd rfl z)
      refine ev_astore (i := 5) (lv' := []) [] dd_L_century_15 (by decide) rfl ?_
      refine ev_iconst (v := 1) dd_L_century_17 (by decide) ?_
      exact ev_iret dd_L_century_18 rfl (Nat.le_of_ble_eq_true rfl) rfl
    by_cases hE1 : E = "java/lang/IllegalArgumentException"
    · subst hE1
      refine ⟨[⟨0, 12, 15, 18⟩], ⟨0, 12, 19, 13⟩, [], rfl, (fun z hz => (List.mem_cons.mp hz).elim (fun e => by rw [e]; exact ⟨by decide, by decide, _, lc_RL_18, by decide +kernel⟩) (fun e => absurd e List.not_mem_nil)), by decide, by decide, lc_RL_13, by decide +kernel, fun q2 => ?_⟩
      refine ev_it (fun z => absurd z (by decide)) (fun _ => ?_)
      refine ev_it (fun _ => ?_) (fun z => absurd rfl z)
      refine ev_astore (i := 5) (lv' := []) [] dd_L_century_19 (by decide) rfl ?_
      refine ev_iconst (v := 2) dd_L_century_21 (by decide) ?_
      exact ev_iret dd_L_century_22 rfl (Nat.le_of_ble_eq_true rfl) rfl
    exact absurd (by unfold zit; rw [if_neg hE0, if_neg hE1]) hne
theorem dd_L_clerks_0 : decode Y_L_clerks.2.1 0 = .ok (.aload 4, 2) := by decide +kernel
theorem dd_L_clerks_2 : decode Y_L_clerks.2.1 2 = .ok (.iconst 0, 1) := by decide +kernel
theorem dd_L_clerks_3 : decode Y_L_clerks.2.1 3 = .ok (.aload_n 0, 1) := by decide +kernel
theorem dd_L_clerks_4 : decode Y_L_clerks.2.1 4 = .ok (.iload_n 1, 1) := by decide +kernel
theorem dd_L_clerks_5 : decode Y_L_clerks.2.1 5 = .ok (.iload_n 2, 1) := by decide +kernel
theorem dd_L_clerks_6 : decode Y_L_clerks.2.1 6 = .ok (.iload_n 3, 1) := by decide +kernel
theorem dd_L_clerks_7 : decode Y_L_clerks.2.1 7 = .ok (.invokevirtual 87, 3) := by decide +kernel
theorem dd_L_clerks_10 : decode Y_L_clerks.2.1 10 = .ok (.i2l, 1) := by decide +kernel
theorem dd_L_clerks_11 : decode Y_L_clerks.2.1 11 = .ok (.lastore, 1) := by decide +kernel
theorem dd_L_clerks_12 : decode Y_L_clerks.2.1 12 = .ok (.goto 11, 3) := by decide +kernel
theorem dd_L_clerks_15 : decode Y_L_clerks.2.1 15 = .ok (.astore 5, 2) := by decide +kernel
theorem dd_L_clerks_17 : decode Y_L_clerks.2.1 17 = .ok (.iconst 1, 1) := by decide +kernel
theorem dd_L_clerks_18 : decode Y_L_clerks.2.1 18 = .ok (.ireturn, 1) := by decide +kernel
theorem dd_L_clerks_19 : decode Y_L_clerks.2.1 19 = .ok (.astore 5, 2) := by decide +kernel
theorem dd_L_clerks_21 : decode Y_L_clerks.2.1 21 = .ok (.iconst 2, 1) := by decide +kernel
theorem dd_L_clerks_22 : decode Y_L_clerks.2.1 22 = .ok (.ireturn, 1) := by decide +kernel
theorem dd_L_clerks_23 : decode Y_L_clerks.2.1 23 = .ok (.iconst 0, 1) := by decide +kernel
theorem dd_L_clerks_24 : decode Y_L_clerks.2.1 24 = .ok (.ireturn, 1) := by decide +kernel
def F_L_clerks (a0 : Nat) (a1 : Int32) (a2 : Int32) (a3 : Int32) (a4 : Nat) (M : zM) : zO := zbH (F_X11_clerks a0 a1 a2 a3 M) (fun r1 M1 => zck (zin 0 (zal a4)) (zst (zupB M1 a4 (zix 0) r1.toInt64) (fun M2 => zI 0 M2))) (fun E Mh => zit (E = "java/util/NoSuchElementException") (zI 1 Mh) (zit (E = "java/lang/IllegalArgumentException") (zI 2 Mh) (none)))
set_option maxHeartbeats 2000000 in
set_option maxRecDepth 50000 in
theorem ct_L_clerks (l : Launch) (hl : l.stackTraces = false) (G : zG) (a0 : Nat) (ha0 : zsh a0 = 11) (a1 : Int32) (a2 : Int32) (a3 : Int32) (a4 : Nat) (ha4 : zsh a4 = 23) (M : zM) : zMh l G Y_L_clerks 12 [.ref (G.2.1 + a0), .int a1, .int a2, .int a3, .ref (G.2.1 + a4)] M (F_L_clerks a0 a1 a2 a3 a4 M) := by
  refine zMh_of (by decide +kernel) (Nat.le_of_ble_eq_true rfl) ?_
  show zEv l G Y_L_clerks 12 0 0 [(0, .ref (G.2.1 + a0)), (1, .int a1), (2, .int a2), (3, .int a3), (4, .ref (G.2.1 + a4))] [] M (zbH (F_X11_clerks a0 a1 a2 a3 M) (fun r1 M1 => zck (zin 0 (zal a4)) (zst (zupB M1 a4 (zix 0) r1.toInt64) (fun M2 => zI 0 M2))) (fun E Mh => zit (E = "java/util/NoSuchElementException") (zI 1 Mh) (zit (E = "java/lang/IllegalArgumentException") (zI 2 Mh) (none))))
  refine ev_aload dd_L_clerks_0 4 rfl ?_
  refine ev_lv (lv' := [(0, .ref (G.2.1 + a0)), (1, .int a1), (2, .int a2), (3, .int a3)]) [0, 1, 2, 3] rfl ?_
  refine ev_iconst (v := 0) dd_L_clerks_2 (by decide) ?_
  refine ev_aload_n dd_L_clerks_3 0 rfl ?_
  refine ev_lv (lv' := [(1, .int a1), (2, .int a2), (3, .int a3)]) [1, 2, 3] rfl ?_
  refine ev_iload_n dd_L_clerks_4 0 rfl ?_
  refine ev_lv (lv' := [(2, .int a2), (3, .int a3)]) [1, 2] rfl ?_
  refine ev_iload_n dd_L_clerks_5 0 rfl ?_
  refine ev_lv (lv' := [(3, .int a3)]) [1] rfl ?_
  refine ev_iload_n dd_L_clerks_6 0 rfl ?_
  refine ev_lv (lv' := []) [] rfl ?_
  refine ev_callVH (As := [.int a1, .int a2, .int a3]) cl_RL_87 (ct_X11_clerks l hl G a0 ha0 a1 a2 a3 M) dd_L_clerks_7 ha0 (by decide) (Nat.le_of_ble_eq_true rfl) (Nat.le_of_ble_eq_true rfl) rfl rfl (fun r1 M1 => ?_) (fun E Mh hne => ?_)
  · refine ev_i2l dd_L_clerks_10 ?_
    refine ev_last dd_L_clerks_11 ha4 rfl ?_
    refine ev_st (fun M2 => ?_)
    refine ev_goto 23 dd_L_clerks_12 (by decide) ?_
    refine ev_iconst (v := 0) dd_L_clerks_23 (by decide) ?_
    exact ev_iret dd_L_clerks_24 rfl (Nat.le_of_ble_eq_true rfl) rfl
  · by_cases hE0 : E = "java/util/NoSuchElementException"
    · subst hE0
      refine ⟨[], ⟨0, 12, 15, 18⟩, [⟨0, 12, 19, 13⟩], rfl, (fun z hz => absurd hz List.not_mem_nil), by decide, by decide, lc_RL_18, by decide +kernel, fun q1 => ?_⟩
      refine ev_it (fun _ => ?_) (fun z => absurd rfl z)
      refine ev_astore (i := 5) (lv' := []) [] dd_L_clerks_15 (by decide) rfl ?_
      refine ev_iconst (v := 1) dd_L_clerks_17 (by decide) ?_
      exact ev_iret dd_L_clerks_18 rfl (Nat.le_of_ble_eq_true rfl) rfl
    by_cases hE1 : E = "java/lang/IllegalArgumentException"
    · subst hE1
      refine ⟨[⟨0, 12, 15, 18⟩], ⟨0, 12, 19, 13⟩, [], rfl, (fun z hz => (List.mem_cons.mp hz).elim (fun e => by rw [e]; exact ⟨by decide, by decide, _, lc_RL_18, by decide +kernel⟩) (fun e => absurd e List.not_mem_nil)), by decide, by decide, lc_RL_13, by decide +kernel, fun q2 => ?_⟩
      refine ev_it (fun z => absurd z (by decide)) (fun _ => ?_)
      refine ev_it (fun _ => ?_) (fun z => absurd rfl z)
      refine ev_astore (i := 5) (lv' := []) [] dd_L_clerks_19 (by decide) rfl ?_
      refine ev_iconst (v := 2) dd_L_clerks_21 (by decide) ?_
      exact ev_iret dd_L_clerks_22 rfl (Nat.le_of_ble_eq_true rfl) rfl
    exact absurd (by unfold zit; rw [if_neg hE0, if_neg hE1]) hne
theorem dd_L_count_0 : decode Y_L_count.2.1 0 = .ok (.aload_n 2, 1) := by decide +kernel
theorem dd_L_count_1 : decode Y_L_count.2.1 1 = .ok (.iconst 0, 1) := by decide +kernel
theorem dd_L_count_2 : decode Y_L_count.2.1 2 = .ok (.aload_n 0, 1) := by decide +kernel
theorem dd_L_count_3 : decode Y_L_count.2.1 3 = .ok (.iload_n 1, 1) := by decide +kernel
theorem dd_L_count_4 : decode Y_L_count.2.1 4 = .ok (.invokevirtual 15, 3) := by decide +kernel
theorem dd_L_count_7 : decode Y_L_count.2.1 7 = .ok (.i2l, 1) := by decide +kernel
theorem dd_L_count_8 : decode Y_L_count.2.1 8 = .ok (.lastore, 1) := by decide +kernel
theorem dd_L_count_9 : decode Y_L_count.2.1 9 = .ok (.goto 6, 3) := by decide +kernel
theorem dd_L_count_12 : decode Y_L_count.2.1 12 = .ok (.astore_n 3, 1) := by decide +kernel
theorem dd_L_count_13 : decode Y_L_count.2.1 13 = .ok (.iconst 1, 1) := by decide +kernel
theorem dd_L_count_14 : decode Y_L_count.2.1 14 = .ok (.ireturn, 1) := by decide +kernel
theorem dd_L_count_15 : decode Y_L_count.2.1 15 = .ok (.iconst 0, 1) := by decide +kernel
theorem dd_L_count_16 : decode Y_L_count.2.1 16 = .ok (.ireturn, 1) := by decide +kernel
def F_L_count (a0 : Nat) (a1 : Int32) (a2 : Nat) (M : zM) : zO := zbH (F_X11_count a0 a1 M) (fun r1 M1 => zck (zin 0 (zal a2)) (zst (zupB M1 a2 (zix 0) r1.toInt64) (fun M2 => zI 0 M2))) (fun E Mh => zit (E = "java/util/NoSuchElementException") (zI 1 Mh) (none))
set_option maxHeartbeats 2000000 in
set_option maxRecDepth 50000 in
theorem ct_L_count (l : Launch) (hl : l.stackTraces = false) (G : zG) (a0 : Nat) (ha0 : zsh a0 = 11) (a1 : Int32) (a2 : Nat) (ha2 : zsh a2 = 23) (M : zM) : zMh l G Y_L_count 3 [.ref (G.2.1 + a0), .int a1, .ref (G.2.1 + a2)] M (F_L_count a0 a1 a2 M) := by
  refine zMh_of (by decide +kernel) (Nat.le_of_ble_eq_true rfl) ?_
  show zEv l G Y_L_count 3 0 0 [(0, .ref (G.2.1 + a0)), (1, .int a1), (2, .ref (G.2.1 + a2))] [] M (zbH (F_X11_count a0 a1 M) (fun r1 M1 => zck (zin 0 (zal a2)) (zst (zupB M1 a2 (zix 0) r1.toInt64) (fun M2 => zI 0 M2))) (fun E Mh => zit (E = "java/util/NoSuchElementException") (zI 1 Mh) (none)))
  refine ev_aload_n dd_L_count_0 2 rfl ?_
  refine ev_lv (lv' := [(0, .ref (G.2.1 + a0)), (1, .int a1)]) [0, 1] rfl ?_
  refine ev_iconst (v := 0) dd_L_count_1 (by decide) ?_
  refine ev_aload_n dd_L_count_2 0 rfl ?_
  refine ev_lv (lv' := [(1, .int a1)]) [1] rfl ?_
  refine ev_iload_n dd_L_count_3 0 rfl ?_
  refine ev_lv (lv' := []) [] rfl ?_
  refine ev_callVH (As := [.int a1]) cl_RL_15 (ct_X11_count l hl G a0 ha0 a1 M) dd_L_count_4 ha0 (by decide) (Nat.le_of_ble_eq_true rfl) (Nat.le_of_ble_eq_true rfl) rfl rfl (fun r1 M1 => ?_) (fun E Mh hne => ?_)
  · refine ev_i2l dd_L_count_7 ?_
    refine ev_last dd_L_count_8 ha2 rfl ?_
    refine ev_st (fun M2 => ?_)
    refine ev_goto 15 dd_L_count_9 (by decide) ?_
    refine ev_iconst (v := 0) dd_L_count_15 (by decide) ?_
    exact ev_iret dd_L_count_16 rfl (Nat.le_of_ble_eq_true rfl) rfl
  · by_cases hE0 : E = "java/util/NoSuchElementException"
    · subst hE0
      refine ⟨[], ⟨0, 9, 12, 18⟩, [], rfl, (fun z hz => absurd hz List.not_mem_nil), by decide, by decide, lc_RL_18, by decide +kernel, fun q1 => ?_⟩
      refine ev_it (fun _ => ?_) (fun z => absurd rfl z)
      refine ev_astore_n (i := 3) (lv' := []) [] dd_L_count_12 rfl (by decide) rfl ?_
      refine ev_iconst (v := 1) dd_L_count_13 (by decide) ?_
      exact ev_iret dd_L_count_14 rfl (Nat.le_of_ble_eq_true rfl) rfl
    exact absurd (by unfold zit; rw [if_neg hE0]) hne
theorem dd_L_debt_0 : decode Y_L_debt.2.1 0 = .ok (.aload_n 3, 1) := by decide +kernel
theorem dd_L_debt_1 : decode Y_L_debt.2.1 1 = .ok (.iconst 0, 1) := by decide +kernel
theorem dd_L_debt_2 : decode Y_L_debt.2.1 2 = .ok (.aload_n 0, 1) := by decide +kernel
theorem dd_L_debt_3 : decode Y_L_debt.2.1 3 = .ok (.iload_n 1, 1) := by decide +kernel
theorem dd_L_debt_4 : decode Y_L_debt.2.1 4 = .ok (.iload_n 2, 1) := by decide +kernel
theorem dd_L_debt_5 : decode Y_L_debt.2.1 5 = .ok (.invokevirtual 30, 3) := by decide +kernel
theorem dd_L_debt_8 : decode Y_L_debt.2.1 8 = .ok (.i2l, 1) := by decide +kernel
theorem dd_L_debt_9 : decode Y_L_debt.2.1 9 = .ok (.lastore, 1) := by decide +kernel
theorem dd_L_debt_10 : decode Y_L_debt.2.1 10 = .ok (.goto 11, 3) := by decide +kernel
theorem dd_L_debt_13 : decode Y_L_debt.2.1 13 = .ok (.astore 4, 2) := by decide +kernel
theorem dd_L_debt_15 : decode Y_L_debt.2.1 15 = .ok (.iconst 1, 1) := by decide +kernel
theorem dd_L_debt_16 : decode Y_L_debt.2.1 16 = .ok (.ireturn, 1) := by decide +kernel
theorem dd_L_debt_17 : decode Y_L_debt.2.1 17 = .ok (.astore 4, 2) := by decide +kernel
theorem dd_L_debt_19 : decode Y_L_debt.2.1 19 = .ok (.iconst 2, 1) := by decide +kernel
theorem dd_L_debt_20 : decode Y_L_debt.2.1 20 = .ok (.ireturn, 1) := by decide +kernel
theorem dd_L_debt_21 : decode Y_L_debt.2.1 21 = .ok (.iconst 0, 1) := by decide +kernel
theorem dd_L_debt_22 : decode Y_L_debt.2.1 22 = .ok (.ireturn, 1) := by decide +kernel
def F_L_debt (a0 : Nat) (a1 : Int32) (a2 : Int32) (a3 : Nat) (M : zM) : zO := zbH (F_X11_debt a0 a1 a2 M) (fun r1 M1 => zck (zin 0 (zal a3)) (zst (zupB M1 a3 (zix 0) r1.toInt64) (fun M2 => zI 0 M2))) (fun E Mh => zit (E = "java/util/NoSuchElementException") (zI 1 Mh) (zit (E = "java/lang/IllegalArgumentException") (zI 2 Mh) (none)))
set_option maxHeartbeats 2000000 in
set_option maxRecDepth 50000 in
theorem ct_L_debt (l : Launch) (hl : l.stackTraces = false) (G : zG) (a0 : Nat) (ha0 : zsh a0 = 11) (a1 : Int32) (a2 : Int32) (a3 : Nat) (ha3 : zsh a3 = 23) (M : zM) : zMh l G Y_L_debt 4 [.ref (G.2.1 + a0), .int a1, .int a2, .ref (G.2.1 + a3)] M (F_L_debt a0 a1 a2 a3 M) := by
  refine zMh_of (by decide +kernel) (Nat.le_of_ble_eq_true rfl) ?_
  show zEv l G Y_L_debt 4 0 0 [(0, .ref (G.2.1 + a0)), (1, .int a1), (2, .int a2), (3, .ref (G.2.1 + a3))] [] M (zbH (F_X11_debt a0 a1 a2 M) (fun r1 M1 => zck (zin 0 (zal a3)) (zst (zupB M1 a3 (zix 0) r1.toInt64) (fun M2 => zI 0 M2))) (fun E Mh => zit (E = "java/util/NoSuchElementException") (zI 1 Mh) (zit (E = "java/lang/IllegalArgumentException") (zI 2 Mh) (none))))
  refine ev_aload_n dd_L_debt_0 3 rfl ?_
  refine ev_lv (lv' := [(0, .ref (G.2.1 + a0)), (1, .int a1), (2, .int a2)]) [0, 1, 2] rfl ?_
  refine ev_iconst (v := 0) dd_L_debt_1 (by decide) ?_
  refine ev_aload_n dd_L_debt_2 0 rfl ?_
  refine ev_lv (lv' := [(1, .int a1), (2, .int a2)]) [1, 2] rfl ?_
  refine ev_iload_n dd_L_debt_3 0 rfl ?_
  refine ev_lv (lv' := [(2, .int a2)]) [1] rfl ?_
  refine ev_iload_n dd_L_debt_4 0 rfl ?_
  refine ev_lv (lv' := []) [] rfl ?_
  refine ev_callVH (As := [.int a1, .int a2]) cl_RL_30 (ct_X11_debt l hl G a0 ha0 a1 a2 M) dd_L_debt_5 ha0 (by decide) (Nat.le_of_ble_eq_true rfl) (Nat.le_of_ble_eq_true rfl) rfl rfl (fun r1 M1 => ?_) (fun E Mh hne => ?_)
  · refine ev_i2l dd_L_debt_8 ?_
    refine ev_last dd_L_debt_9 ha3 rfl ?_
    refine ev_st (fun M2 => ?_)
    refine ev_goto 21 dd_L_debt_10 (by decide) ?_
    refine ev_iconst (v := 0) dd_L_debt_21 (by decide) ?_
    exact ev_iret dd_L_debt_22 rfl (Nat.le_of_ble_eq_true rfl) rfl
  · by_cases hE0 : E = "java/util/NoSuchElementException"
    · subst hE0
      refine ⟨[], ⟨0, 10, 13, 18⟩, [⟨0, 10, 17, 13⟩], rfl, (fun z hz => absurd hz List.not_mem_nil), by decide, by decide, lc_RL_18, by decide +kernel, fun q1 => ?_⟩
      refine ev_it (fun _ => ?_) (fun z => absurd rfl z)
      refine ev_astore (i := 4) (lv' := []) [] dd_L_debt_13 (by decide) rfl ?_
      refine ev_iconst (v := 1) dd_L_debt_15 (by decide) ?_
      exact ev_iret dd_L_debt_16 rfl (Nat.le_of_ble_eq_true rfl) rfl
    by_cases hE1 : E = "java/lang/IllegalArgumentException"
    · subst hE1
      refine ⟨[⟨0, 10, 13, 18⟩], ⟨0, 10, 17, 13⟩, [], rfl, (fun z hz => (List.mem_cons.mp hz).elim (fun e => by rw [e]; exact ⟨by decide, by decide, _, lc_RL_18, by decide +kernel⟩) (fun e => absurd e List.not_mem_nil)), by decide, by decide, lc_RL_13, by decide +kernel, fun q2 => ?_⟩
      refine ev_it (fun z => absurd z (by decide)) (fun _ => ?_)
      refine ev_it (fun _ => ?_) (fun z => absurd rfl z)
      refine ev_astore (i := 4) (lv' := []) [] dd_L_debt_17 (by decide) rfl ?_
      refine ev_iconst (v := 2) dd_L_debt_19 (by decide) ?_
      exact ev_iret dd_L_debt_20 rfl (Nat.le_of_ble_eq_true rfl) rfl
    exact absurd (by unfold zit; rw [if_neg hE0, if_neg hE1]) hne
theorem dd_L_forgive_0 : decode Y_L_forgive.2.1 0 = .ok (.aload_n 3, 1) := by decide +kernel
theorem dd_L_forgive_1 : decode Y_L_forgive.2.1 1 = .ok (.iconst 0, 1) := by decide +kernel
theorem dd_L_forgive_2 : decode Y_L_forgive.2.1 2 = .ok (.aload_n 0, 1) := by decide +kernel
theorem dd_L_forgive_3 : decode Y_L_forgive.2.1 3 = .ok (.iload_n 1, 1) := by decide +kernel
theorem dd_L_forgive_4 : decode Y_L_forgive.2.1 4 = .ok (.iload_n 2, 1) := by decide +kernel
theorem dd_L_forgive_5 : decode Y_L_forgive.2.1 5 = .ok (.invokevirtual 40, 3) := by decide +kernel
theorem dd_L_forgive_8 : decode Y_L_forgive.2.1 8 = .ok (.i2l, 1) := by decide +kernel
theorem dd_L_forgive_9 : decode Y_L_forgive.2.1 9 = .ok (.lastore, 1) := by decide +kernel
theorem dd_L_forgive_10 : decode Y_L_forgive.2.1 10 = .ok (.goto 11, 3) := by decide +kernel
theorem dd_L_forgive_13 : decode Y_L_forgive.2.1 13 = .ok (.astore 4, 2) := by decide +kernel
theorem dd_L_forgive_15 : decode Y_L_forgive.2.1 15 = .ok (.iconst 1, 1) := by decide +kernel
theorem dd_L_forgive_16 : decode Y_L_forgive.2.1 16 = .ok (.ireturn, 1) := by decide +kernel
theorem dd_L_forgive_17 : decode Y_L_forgive.2.1 17 = .ok (.astore 4, 2) := by decide +kernel
theorem dd_L_forgive_19 : decode Y_L_forgive.2.1 19 = .ok (.iconst 2, 1) := by decide +kernel
theorem dd_L_forgive_20 : decode Y_L_forgive.2.1 20 = .ok (.ireturn, 1) := by decide +kernel
theorem dd_L_forgive_21 : decode Y_L_forgive.2.1 21 = .ok (.iconst 0, 1) := by decide +kernel
theorem dd_L_forgive_22 : decode Y_L_forgive.2.1 22 = .ok (.ireturn, 1) := by decide +kernel
def F_L_forgive (a0 : Nat) (a1 : Int32) (a2 : Int32) (a3 : Nat) (M : zM) : zO := zbH (F_X11_forgive a0 a1 a2 M) (fun r1 M1 => zck (zin 0 (zal a3)) (zst (zupB M1 a3 (zix 0) r1.toInt64) (fun M2 => zI 0 M2))) (fun E Mh => zit (E = "java/util/NoSuchElementException") (zI 1 Mh) (zit (E = "java/lang/IllegalArgumentException") (zI 2 Mh) (none)))
set_option maxHeartbeats 2000000 in
set_option maxRecDepth 50000 in
theorem ct_L_forgive (l : Launch) (hl : l.stackTraces = false) (G : zG) (a0 : Nat) (ha0 : zsh a0 = 11) (a1 : Int32) (a2 : Int32) (a3 : Nat) (ha3 : zsh a3 = 23) (M : zM) : zMh l G Y_L_forgive 11 [.ref (G.2.1 + a0), .int a1, .int a2, .ref (G.2.1 + a3)] M (F_L_forgive a0 a1 a2 a3 M) := by
  refine zMh_of (by decide +kernel) (Nat.le_of_ble_eq_true rfl) ?_
  show zEv l G Y_L_forgive 11 0 0 [(0, .ref (G.2.1 + a0)), (1, .int a1), (2, .int a2), (3, .ref (G.2.1 + a3))] [] M (zbH (F_X11_forgive a0 a1 a2 M) (fun r1 M1 => zck (zin 0 (zal a3)) (zst (zupB M1 a3 (zix 0) r1.toInt64) (fun M2 => zI 0 M2))) (fun E Mh => zit (E = "java/util/NoSuchElementException") (zI 1 Mh) (zit (E = "java/lang/IllegalArgumentException") (zI 2 Mh) (none))))
  refine ev_aload_n dd_L_forgive_0 3 rfl ?_
  refine ev_lv (lv' := [(0, .ref (G.2.1 + a0)), (1, .int a1), (2, .int a2)]) [0, 1, 2] rfl ?_
  refine ev_iconst (v := 0) dd_L_forgive_1 (by decide) ?_
  refine ev_aload_n dd_L_forgive_2 0 rfl ?_
  refine ev_lv (lv' := [(1, .int a1), (2, .int a2)]) [1, 2] rfl ?_
  refine ev_iload_n dd_L_forgive_3 0 rfl ?_
  refine ev_lv (lv' := [(2, .int a2)]) [1] rfl ?_
  refine ev_iload_n dd_L_forgive_4 0 rfl ?_
  refine ev_lv (lv' := []) [] rfl ?_
  refine ev_callVH (As := [.int a1, .int a2]) cl_RL_40 (ct_X11_forgive l hl G a0 ha0 a1 a2 M) dd_L_forgive_5 ha0 (by decide) (Nat.le_of_ble_eq_true rfl) (Nat.le_of_ble_eq_true rfl) rfl rfl (fun r1 M1 => ?_) (fun E Mh hne => ?_)
  · refine ev_i2l dd_L_forgive_8 ?_
    refine ev_last dd_L_forgive_9 ha3 rfl ?_
    refine ev_st (fun M2 => ?_)
    refine ev_goto 21 dd_L_forgive_10 (by decide) ?_
    refine ev_iconst (v := 0) dd_L_forgive_21 (by decide) ?_
    exact ev_iret dd_L_forgive_22 rfl (Nat.le_of_ble_eq_true rfl) rfl
  · by_cases hE0 : E = "java/util/NoSuchElementException"
    · subst hE0
      refine ⟨[], ⟨0, 10, 13, 18⟩, [⟨0, 10, 17, 13⟩], rfl, (fun z hz => absurd hz List.not_mem_nil), by decide, by decide, lc_RL_18, by decide +kernel, fun q1 => ?_⟩
      refine ev_it (fun _ => ?_) (fun z => absurd rfl z)
      refine ev_astore (i := 4) (lv' := []) [] dd_L_forgive_13 (by decide) rfl ?_
      refine ev_iconst (v := 1) dd_L_forgive_15 (by decide) ?_
      exact ev_iret dd_L_forgive_16 rfl (Nat.le_of_ble_eq_true rfl) rfl
    by_cases hE1 : E = "java/lang/IllegalArgumentException"
    · subst hE1
      refine ⟨[⟨0, 10, 13, 18⟩], ⟨0, 10, 17, 13⟩, [], rfl, (fun z hz => (List.mem_cons.mp hz).elim (fun e => by rw [e]; exact ⟨by decide, by decide, _, lc_RL_18, by decide +kernel⟩) (fun e => absurd e List.not_mem_nil)), by decide, by decide, lc_RL_13, by decide +kernel, fun q2 => ?_⟩
      refine ev_it (fun z => absurd z (by decide)) (fun _ => ?_)
      refine ev_it (fun _ => ?_) (fun z => absurd rfl z)
      refine ev_astore (i := 4) (lv' := []) [] dd_L_forgive_17 (by decide) rfl ?_
      refine ev_iconst (v := 2) dd_L_forgive_19 (by decide) ?_
      exact ev_iret dd_L_forgive_20 rfl (Nat.le_of_ble_eq_true rfl) rfl
    exact absurd (by unfold zit; rw [if_neg hE0, if_neg hE1]) hne
theorem dd_L_glad_0 : decode Y_L_glad.2.1 0 = .ok (.aload_n 2, 1) := by decide +kernel
theorem dd_L_glad_1 : decode Y_L_glad.2.1 1 = .ok (.iconst 0, 1) := by decide +kernel
theorem dd_L_glad_2 : decode Y_L_glad.2.1 2 = .ok (.aload_n 0, 1) := by decide +kernel
theorem dd_L_glad_3 : decode Y_L_glad.2.1 3 = .ok (.iload_n 1, 1) := by decide +kernel
theorem dd_L_glad_4 : decode Y_L_glad.2.1 4 = .ok (.invokevirtual 47, 3) := by decide +kernel
theorem dd_L_glad_7 : decode Y_L_glad.2.1 7 = .ok (.i2l, 1) := by decide +kernel
theorem dd_L_glad_8 : decode Y_L_glad.2.1 8 = .ok (.lastore, 1) := by decide +kernel
theorem dd_L_glad_9 : decode Y_L_glad.2.1 9 = .ok (.goto 6, 3) := by decide +kernel
theorem dd_L_glad_12 : decode Y_L_glad.2.1 12 = .ok (.astore_n 3, 1) := by decide +kernel
theorem dd_L_glad_13 : decode Y_L_glad.2.1 13 = .ok (.iconst 1, 1) := by decide +kernel
theorem dd_L_glad_14 : decode Y_L_glad.2.1 14 = .ok (.ireturn, 1) := by decide +kernel
theorem dd_L_glad_15 : decode Y_L_glad.2.1 15 = .ok (.iconst 0, 1) := by decide +kernel
theorem dd_L_glad_16 : decode Y_L_glad.2.1 16 = .ok (.ireturn, 1) := by decide +kernel
def F_L_glad (a0 : Nat) (a1 : Int32) (a2 : Nat) (M : zM) : zO := zbH (F_X11_glad a0 a1 M) (fun r1 M1 => zck (zin 0 (zal a2)) (zst (zupB M1 a2 (zix 0) r1.toInt64) (fun M2 => zI 0 M2))) (fun E Mh => zit (E = "java/util/NoSuchElementException") (zI 1 Mh) (none))
set_option maxHeartbeats 2000000 in
set_option maxRecDepth 50000 in
theorem ct_L_glad (l : Launch) (hl : l.stackTraces = false) (G : zG) (a0 : Nat) (ha0 : zsh a0 = 11) (a1 : Int32) (a2 : Nat) (ha2 : zsh a2 = 23) (M : zM) : zMh l G Y_L_glad 6 [.ref (G.2.1 + a0), .int a1, .ref (G.2.1 + a2)] M (F_L_glad a0 a1 a2 M) := by
  refine zMh_of (by decide +kernel) (Nat.le_of_ble_eq_true rfl) ?_
  show zEv l G Y_L_glad 6 0 0 [(0, .ref (G.2.1 + a0)), (1, .int a1), (2, .ref (G.2.1 + a2))] [] M (zbH (F_X11_glad a0 a1 M) (fun r1 M1 => zck (zin 0 (zal a2)) (zst (zupB M1 a2 (zix 0) r1.toInt64) (fun M2 => zI 0 M2))) (fun E Mh => zit (E = "java/util/NoSuchElementException") (zI 1 Mh) (none)))
  refine ev_aload_n dd_L_glad_0 2 rfl ?_
  refine ev_lv (lv' := [(0, .ref (G.2.1 + a0)), (1, .int a1)]) [0, 1] rfl ?_
  refine ev_iconst (v := 0) dd_L_glad_1 (by decide) ?_
  refine ev_aload_n dd_L_glad_2 0 rfl ?_
  refine ev_lv (lv' := [(1, .int a1)]) [1] rfl ?_
  refine ev_iload_n dd_L_glad_3 0 rfl ?_
  refine ev_lv (lv' := []) [] rfl ?_
  refine ev_callVH (As := [.int a1]) cl_RL_47 (ct_X11_glad l hl G a0 ha0 a1 M) dd_L_glad_4 ha0 (by decide) (Nat.le_of_ble_eq_true rfl) (Nat.le_of_ble_eq_true rfl) rfl rfl (fun r1 M1 => ?_) (fun E Mh hne => ?_)
  · refine ev_i2l dd_L_glad_7 ?_
    refine ev_last dd_L_glad_8 ha2 rfl ?_
    refine ev_st (fun M2 => ?_)
    refine ev_goto 15 dd_L_glad_9 (by decide) ?_
    refine ev_iconst (v := 0) dd_L_glad_15 (by decide) ?_
    exact ev_iret dd_L_glad_16 rfl (Nat.le_of_ble_eq_true rfl) rfl
  · by_cases hE0 : E = "java/util/NoSuchElementException"
    · subst hE0
      refine ⟨[], ⟨0, 9, 12, 18⟩, [], rfl, (fun z hz => absurd hz List.not_mem_nil), by decide, by decide, lc_RL_18, by decide +kernel, fun q1 => ?_⟩
      refine ev_it (fun _ => ?_) (fun z => absurd rfl z)
      refine ev_astore_n (i := 3) (lv' := []) [] dd_L_glad_12 rfl (by decide) rfl ?_
      refine ev_iconst (v := 1) dd_L_glad_13 (by decide) ?_
      exact ev_iret dd_L_glad_14 rfl (Nat.le_of_ble_eq_true rfl) rfl
    exact absurd (by unfold zit; rw [if_neg hE0]) hne
theorem dd_L_has_0 : decode Y_L_has.2.1 0 = .ok (.aload_n 2, 1) := by decide +kernel
theorem dd_L_has_1 : decode Y_L_has.2.1 1 = .ok (.iconst 0, 1) := by decide +kernel
theorem dd_L_has_2 : decode Y_L_has.2.1 2 = .ok (.aload_n 0, 1) := by decide +kernel
theorem dd_L_has_3 : decode Y_L_has.2.1 3 = .ok (.iload_n 1, 1) := by decide +kernel
theorem dd_L_has_4 : decode Y_L_has.2.1 4 = .ok (.invokevirtual 27, 3) := by decide +kernel
theorem dd_L_has_7 : decode Y_L_has.2.1 7 = .ok (.i2l, 1) := by decide +kernel
theorem dd_L_has_8 : decode Y_L_has.2.1 8 = .ok (.lastore, 1) := by decide +kernel
theorem dd_L_has_9 : decode Y_L_has.2.1 9 = .ok (.goto 6, 3) := by decide +kernel
theorem dd_L_has_12 : decode Y_L_has.2.1 12 = .ok (.astore_n 3, 1) := by decide +kernel
theorem dd_L_has_13 : decode Y_L_has.2.1 13 = .ok (.iconst 1, 1) := by decide +kernel
theorem dd_L_has_14 : decode Y_L_has.2.1 14 = .ok (.ireturn, 1) := by decide +kernel
theorem dd_L_has_15 : decode Y_L_has.2.1 15 = .ok (.iconst 0, 1) := by decide +kernel
theorem dd_L_has_16 : decode Y_L_has.2.1 16 = .ok (.ireturn, 1) := by decide +kernel
def F_L_has (a0 : Nat) (a1 : Int32) (a2 : Nat) (M : zM) : zO := zbH (F_X11_has a0 a1 M) (fun r1 M1 => zck (zin 0 (zal a2)) (zst (zupB M1 a2 (zix 0) r1.toInt64) (fun M2 => zI 0 M2))) (fun E Mh => zit (E = "java/util/NoSuchElementException") (zI 1 Mh) (none))
set_option maxHeartbeats 2000000 in
set_option maxRecDepth 50000 in
theorem ct_L_has (l : Launch) (hl : l.stackTraces = false) (G : zG) (a0 : Nat) (ha0 : zsh a0 = 11) (a1 : Int32) (a2 : Nat) (ha2 : zsh a2 = 23) (M : zM) : zMh l G Y_L_has 3 [.ref (G.2.1 + a0), .int a1, .ref (G.2.1 + a2)] M (F_L_has a0 a1 a2 M) := by
  refine zMh_of (by decide +kernel) (Nat.le_of_ble_eq_true rfl) ?_
  show zEv l G Y_L_has 3 0 0 [(0, .ref (G.2.1 + a0)), (1, .int a1), (2, .ref (G.2.1 + a2))] [] M (zbH (F_X11_has a0 a1 M) (fun r1 M1 => zck (zin 0 (zal a2)) (zst (zupB M1 a2 (zix 0) r1.toInt64) (fun M2 => zI 0 M2))) (fun E Mh => zit (E = "java/util/NoSuchElementException") (zI 1 Mh) (none)))
  refine ev_aload_n dd_L_has_0 2 rfl ?_
  refine ev_lv (lv' := [(0, .ref (G.2.1 + a0)), (1, .int a1)]) [0, 1] rfl ?_
  refine ev_iconst (v := 0) dd_L_has_1 (by decide) ?_
  refine ev_aload_n dd_L_has_2 0 rfl ?_
  refine ev_lv (lv' := [(1, .int a1)]) [1] rfl ?_
  refine ev_iload_n dd_L_has_3 0 rfl ?_
  refine ev_lv (lv' := []) [] rfl ?_
  refine ev_callVH (As := [.int a1]) cl_RL_27 (ct_X11_has l hl G a0 ha0 a1 M) dd_L_has_4 ha0 (by decide) (Nat.le_of_ble_eq_true rfl) (Nat.le_of_ble_eq_true rfl) rfl rfl (fun r1 M1 => ?_) (fun E Mh hne => ?_)
  · refine ev_i2l dd_L_has_7 ?_
    refine ev_last dd_L_has_8 ha2 rfl ?_
    refine ev_st (fun M2 => ?_)
    refine ev_goto 15 dd_L_has_9 (by decide) ?_
    refine ev_iconst (v := 0) dd_L_has_15 (by decide) ?_
    exact ev_iret dd_L_has_16 rfl (Nat.le_of_ble_eq_true rfl) rfl
  · by_cases hE0 : E = "java/util/NoSuchElementException"
    · subst hE0
      refine ⟨[], ⟨0, 9, 12, 18⟩, [], rfl, (fun z hz => absurd hz List.not_mem_nil), by decide, by decide, lc_RL_18, by decide +kernel, fun q1 => ?_⟩
      refine ev_it (fun _ => ?_) (fun z => absurd rfl z)
      refine ev_astore_n (i := 3) (lv' := []) [] dd_L_has_12 rfl (by decide) rfl ?_
      refine ev_iconst (v := 1) dd_L_has_13 (by decide) ?_
      exact ev_iret dd_L_has_14 rfl (Nat.le_of_ble_eq_true rfl) rfl
    exact absurd (by unfold zit; rw [if_neg hE0]) hne
theorem dd_L_inside_0 : decode Y_L_inside.2.1 0 = .ok (.aload_n 3, 1) := by decide +kernel
theorem dd_L_inside_1 : decode Y_L_inside.2.1 1 = .ok (.iconst 0, 1) := by decide +kernel
theorem dd_L_inside_2 : decode Y_L_inside.2.1 2 = .ok (.aload_n 0, 1) := by decide +kernel
theorem dd_L_inside_3 : decode Y_L_inside.2.1 3 = .ok (.iload_n 1, 1) := by decide +kernel
theorem dd_L_inside_4 : decode Y_L_inside.2.1 4 = .ok (.iload_n 2, 1) := by decide +kernel
theorem dd_L_inside_5 : decode Y_L_inside.2.1 5 = .ok (.invokevirtual 63, 3) := by decide +kernel
theorem dd_L_inside_8 : decode Y_L_inside.2.1 8 = .ok (.ifCond .eq 7, 3) := by decide +kernel
theorem dd_L_inside_11 : decode Y_L_inside.2.1 11 = .ok (.lconst 1, 1) := by decide +kernel
theorem dd_L_inside_12 : decode Y_L_inside.2.1 12 = .ok (.goto 4, 3) := by decide +kernel
theorem dd_L_inside_15 : decode Y_L_inside.2.1 15 = .ok (.lconst 0, 1) := by decide +kernel
theorem dd_L_inside_16 : decode Y_L_inside.2.1 16 = .ok (.lastore, 1) := by decide +kernel
theorem dd_L_inside_17 : decode Y_L_inside.2.1 17 = .ok (.goto 7, 3) := by decide +kernel
theorem dd_L_inside_20 : decode Y_L_inside.2.1 20 = .ok (.astore 4, 2) := by decide +kernel
theorem dd_L_inside_22 : decode Y_L_inside.2.1 22 = .ok (.iconst 1, 1) := by decide +kernel
theorem dd_L_inside_23 : decode Y_L_inside.2.1 23 = .ok (.ireturn, 1) := by decide +kernel
theorem dd_L_inside_24 : decode Y_L_inside.2.1 24 = .ok (.iconst 0, 1) := by decide +kernel
theorem dd_L_inside_25 : decode Y_L_inside.2.1 25 = .ok (.ireturn, 1) := by decide +kernel
def F_L_inside (a0 : Nat) (a1 : Int32) (a2 : Int32) (a3 : Nat) (M : zM) : zO := zbH (F_X11_inside a0 a1 a2 M) (fun r1 M1 => zjo (fun (w1 : Int64) (M2 : zM) => zck (zin 0 (zal a3)) (zst (zupB M2 a3 (zix 0) w1) (fun M3 => zI 0 M3))) (fun (k1 : Int64 → zM → zO) => zit (r1 = 0) (k1 0 M1) (k1 1 M1))) (fun E Mh => zit (E = "java/util/NoSuchElementException") (zI 1 Mh) (none))
set_option maxHeartbeats 2000000 in
set_option maxRecDepth 50000 in
theorem ct_L_inside (l : Launch) (hl : l.stackTraces = false) (G : zG) (a0 : Nat) (ha0 : zsh a0 = 11) (a1 : Int32) (a2 : Int32) (a3 : Nat) (ha3 : zsh a3 = 23) (M : zM) : zMh l G Y_L_inside 5 [.ref (G.2.1 + a0), .int a1, .int a2, .ref (G.2.1 + a3)] M (F_L_inside a0 a1 a2 a3 M) := by
  refine zMh_of (by decide +kernel) (Nat.le_of_ble_eq_true rfl) ?_
  show zEv l G Y_L_inside 5 0 0 [(0, .ref (G.2.1 + a0)), (1, .int a1), (2, .int a2), (3, .ref (G.2.1 + a3))] [] M (zbH (F_X11_inside a0 a1 a2 M) (fun r1 M1 => zjo (fun (w1 : Int64) (M2 : zM) => zck (zin 0 (zal a3)) (zst (zupB M2 a3 (zix 0) w1) (fun M3 => zI 0 M3))) (fun (k1 : Int64 → zM → zO) => zit (r1 = 0) (k1 0 M1) (k1 1 M1))) (fun E Mh => zit (E = "java/util/NoSuchElementException") (zI 1 Mh) (none)))
  refine ev_aload_n dd_L_inside_0 3 rfl ?_
  refine ev_lv (lv' := [(0, .ref (G.2.1 + a0)), (1, .int a1), (2, .int a2)]) [0, 1, 2] rfl ?_
  refine ev_iconst (v := 0) dd_L_inside_1 (by decide) ?_
  refine ev_aload_n dd_L_inside_2 0 rfl ?_
  refine ev_lv (lv' := [(1, .int a1), (2, .int a2)]) [1, 2] rfl ?_
  refine ev_iload_n dd_L_inside_3 0 rfl ?_
  refine ev_lv (lv' := [(2, .int a2)]) [1] rfl ?_
  refine ev_iload_n dd_L_inside_4 0 rfl ?_
  refine ev_lv (lv' := []) [] rfl ?_
  refine ev_callVH (As := [.int a1, .int a2]) cl_RL_63 (ct_X11_inside l hl G a0 ha0 a1 a2 M) dd_L_inside_5 ha0 (by decide) (Nat.le_of_ble_eq_true rfl) (Nat.le_of_ble_eq_true rfl) rfl rfl (fun r1 M1 => ?_) (fun E Mh hne => ?_)
  · refine ev_jo (fun (k1 : Int64 → zM → zO) => ∀ (w1 : Int64) (M2 : zM), zEv l G Y_L_inside 5 2 16 [] [.long w1, .int 0, .ref (G.2.1 + a3)] M2 (k1 w1 M2)) ?_ (fun k1 hk1 => ?_)
    · intro w1 M2
      refine ev_last dd_L_inside_16 ha3 rfl ?_
      refine ev_st (fun M3 => ?_)
      refine ev_goto 24 dd_L_inside_17 (by decide) ?_
      refine ev_iconst (v := 0) dd_L_inside_24 (by decide) ?_
      exact ev_iret dd_L_inside_25 rfl (Nat.le_of_ble_eq_true rfl) rfl
    · refine ev_if_eq 15 dd_L_inside_8 (by decide) ?_ ?_
      · refine ev_lconst (v := 0) dd_L_inside_15 (by decide) ?_
        exact hk1 _ _
      · refine ev_lconst (v := 1) dd_L_inside_11 (by decide) ?_
        refine ev_goto 16 dd_L_inside_12 (by decide) ?_
        exact hk1 _ _
  · by_cases hE0 : E = "java/util/NoSuchElementException"
    · subst hE0
      refine ⟨[], ⟨0, 17, 20, 18⟩, [], rfl, (fun z hz => absurd hz List.not_mem_nil), by decide, by decide, lc_RL_18, by decide +kernel, fun q1 => ?_⟩
      refine ev_it (fun _ => ?_) (fun z => absurd rfl z)
      refine ev_astore (i := 4) (lv' := []) [] dd_L_inside_20 (by decide) rfl ?_
      refine ev_iconst (v := 1) dd_L_inside_22 (by decide) ?_
      exact ev_iret dd_L_inside_23 rfl (Nat.le_of_ble_eq_true rfl) rfl
    exact absurd (by unfold zit; rw [if_neg hE0]) hne
theorem dd_L_joined_0 : decode Y_L_joined.2.1 0 = .ok (.aload 4, 2) := by decide +kernel
theorem dd_L_joined_2 : decode Y_L_joined.2.1 2 = .ok (.iconst 0, 1) := by decide +kernel
theorem dd_L_joined_3 : decode Y_L_joined.2.1 3 = .ok (.aload_n 0, 1) := by decide +kernel
theorem dd_L_joined_4 : decode Y_L_joined.2.1 4 = .ok (.iload_n 1, 1) := by decide +kernel
theorem dd_L_joined_5 : decode Y_L_joined.2.1 5 = .ok (.iload_n 2, 1) := by decide +kernel
theorem dd_L_joined_6 : decode Y_L_joined.2.1 6 = .ok (.iload_n 3, 1) := by decide +kernel
theorem dd_L_joined_7 : decode Y_L_joined.2.1 7 = .ok (.invokevirtual 60, 3) := by decide +kernel
theorem dd_L_joined_10 : decode Y_L_joined.2.1 10 = .ok (.i2l, 1) := by decide +kernel
theorem dd_L_joined_11 : decode Y_L_joined.2.1 11 = .ok (.lastore, 1) := by decide +kernel
theorem dd_L_joined_12 : decode Y_L_joined.2.1 12 = .ok (.goto 11, 3) := by decide +kernel
theorem dd_L_joined_15 : decode Y_L_joined.2.1 15 = .ok (.astore 5, 2) := by decide +kernel
theorem dd_L_joined_17 : decode Y_L_joined.2.1 17 = .ok (.iconst 1, 1) := by decide +kernel
theorem dd_L_joined_18 : decode Y_L_joined.2.1 18 = .ok (.ireturn, 1) := by decide +kernel
theorem dd_L_joined_19 : decode Y_L_joined.2.1 19 = .ok (.astore 5, 2) := by decide +kernel
theorem dd_L_joined_21 : decode Y_L_joined.2.1 21 = .ok (.iconst 2, 1) := by decide +kernel
theorem dd_L_joined_22 : decode Y_L_joined.2.1 22 = .ok (.ireturn, 1) := by decide +kernel
theorem dd_L_joined_23 : decode Y_L_joined.2.1 23 = .ok (.iconst 0, 1) := by decide +kernel
theorem dd_L_joined_24 : decode Y_L_joined.2.1 24 = .ok (.ireturn, 1) := by decide +kernel
def F_L_joined (a0 : Nat) (a1 : Int32) (a2 : Int32) (a3 : Int32) (a4 : Nat) (M : zM) : zO := zbH (F_X11_joined a0 a1 a2 a3 M) (fun r1 M1 => zck (zin 0 (zal a4)) (zst (zupB M1 a4 (zix 0) r1.toInt64) (fun M2 => zI 0 M2))) (fun E Mh => zit (E = "java/util/NoSuchElementException") (zI 1 Mh) (zit (E = "java/lang/IllegalArgumentException") (zI 2 Mh) (none)))
set_option maxHeartbeats 2000000 in
set_option maxRecDepth 50000 in
theorem ct_L_joined (l : Launch) (hl : l.stackTraces = false) (G : zG) (a0 : Nat) (ha0 : zsh a0 = 11) (a1 : Int32) (a2 : Int32) (a3 : Int32) (a4 : Nat) (ha4 : zsh a4 = 23) (M : zM) : zMh l G Y_L_joined 11 [.ref (G.2.1 + a0), .int a1, .int a2, .int a3, .ref (G.2.1 + a4)] M (F_L_joined a0 a1 a2 a3 a4 M) := by
  refine zMh_of (by decide +kernel) (Nat.le_of_ble_eq_true rfl) ?_
  show zEv l G Y_L_joined 11 0 0 [(0, .ref (G.2.1 + a0)), (1, .int a1), (2, .int a2), (3, .int a3), (4, .ref (G.2.1 + a4))] [] M (zbH (F_X11_joined a0 a1 a2 a3 M) (fun r1 M1 => zck (zin 0 (zal a4)) (zst (zupB M1 a4 (zix 0) r1.toInt64) (fun M2 => zI 0 M2))) (fun E Mh => zit (E = "java/util/NoSuchElementException") (zI 1 Mh) (zit (E = "java/lang/IllegalArgumentException") (zI 2 Mh) (none))))
  refine ev_aload dd_L_joined_0 4 rfl ?_
  refine ev_lv (lv' := [(0, .ref (G.2.1 + a0)), (1, .int a1), (2, .int a2), (3, .int a3)]) [0, 1, 2, 3] rfl ?_
  refine ev_iconst (v := 0) dd_L_joined_2 (by decide) ?_
  refine ev_aload_n dd_L_joined_3 0 rfl ?_
  refine ev_lv (lv' := [(1, .int a1), (2, .int a2), (3, .int a3)]) [1, 2, 3] rfl ?_
  refine ev_iload_n dd_L_joined_4 0 rfl ?_
  refine ev_lv (lv' := [(2, .int a2), (3, .int a3)]) [1, 2] rfl ?_
  refine ev_iload_n dd_L_joined_5 0 rfl ?_
  refine ev_lv (lv' := [(3, .int a3)]) [1] rfl ?_
  refine ev_iload_n dd_L_joined_6 0 rfl ?_
  refine ev_lv (lv' := []) [] rfl ?_
  refine ev_callVH (As := [.int a1, .int a2, .int a3]) cl_RL_60 (ct_X11_joined l hl G a0 ha0 a1 a2 a3 M) dd_L_joined_7 ha0 (by decide) (Nat.le_of_ble_eq_true rfl) (Nat.le_of_ble_eq_true rfl) rfl rfl (fun r1 M1 => ?_) (fun E Mh hne => ?_)
  · refine ev_i2l dd_L_joined_10 ?_
    refine ev_last dd_L_joined_11 ha4 rfl ?_
    refine ev_st (fun M2 => ?_)
    refine ev_goto 23 dd_L_joined_12 (by decide) ?_
    refine ev_iconst (v := 0) dd_L_joined_23 (by decide) ?_
    exact ev_iret dd_L_joined_24 rfl (Nat.le_of_ble_eq_true rfl) rfl
  · by_cases hE0 : E = "java/util/NoSuchElementException"
    · subst hE0
      refine ⟨[], ⟨0, 12, 15, 18⟩, [⟨0, 12, 19, 13⟩], rfl, (fun z hz => absurd hz List.not_mem_nil), by decide, by decide, lc_RL_18, by decide +kernel, fun q1 => ?_⟩
      refine ev_it (fun _ => ?_) (fun z => absurd rfl z)
      refine ev_astore (i := 5) (lv' := []) [] dd_L_joined_15 (by decide) rfl ?_
      refine ev_iconst (v := 1) dd_L_joined_17 (by decide) ?_
      exact ev_iret dd_L_joined_18 rfl (Nat.le_of_ble_eq_true rfl) rfl
    by_cases hE1 : E = "java/lang/IllegalArgumentException"
    · subst hE1
      refine ⟨[⟨0, 12, 15, 18⟩], ⟨0, 12, 19, 13⟩, [], rfl, (fun z hz => (List.mem_cons.mp hz).elim (fun e => by rw [e]; exact ⟨by decide, by decide, _, lc_RL_18, by decide +kernel⟩) (fun e => absurd e List.not_mem_nil)), by decide, by decide, lc_RL_13, by decide +kernel, fun q2 => ?_⟩
      refine ev_it (fun z => absurd z (by decide)) (fun _ => ?_)
      refine ev_it (fun _ => ?_) (fun z => absurd rfl z)
      refine ev_astore (i := 5) (lv' := []) [] dd_L_joined_19 (by decide) rfl ?_
      refine ev_iconst (v := 2) dd_L_joined_21 (by decide) ?_
      exact ev_iret dd_L_joined_22 rfl (Nat.le_of_ble_eq_true rfl) rfl
    exact absurd (by unfold zit; rw [if_neg hE0, if_neg hE1]) hne
theorem dd_L_letter_0 : decode Y_L_letter.2.1 0 = .ok (.aload_n 3, 1) := by decide +kernel
theorem dd_L_letter_1 : decode Y_L_letter.2.1 1 = .ok (.iconst 0, 1) := by decide +kernel
theorem dd_L_letter_2 : decode Y_L_letter.2.1 2 = .ok (.aload_n 0, 1) := by decide +kernel
theorem dd_L_letter_3 : decode Y_L_letter.2.1 3 = .ok (.iload_n 1, 1) := by decide +kernel
theorem dd_L_letter_4 : decode Y_L_letter.2.1 4 = .ok (.iload_n 2, 1) := by decide +kernel
theorem dd_L_letter_5 : decode Y_L_letter.2.1 5 = .ok (.invokevirtual 24, 3) := by decide +kernel
theorem dd_L_letter_8 : decode Y_L_letter.2.1 8 = .ok (.i2l, 1) := by decide +kernel
theorem dd_L_letter_9 : decode Y_L_letter.2.1 9 = .ok (.lastore, 1) := by decide +kernel
theorem dd_L_letter_10 : decode Y_L_letter.2.1 10 = .ok (.goto 7, 3) := by decide +kernel
theorem dd_L_letter_13 : decode Y_L_letter.2.1 13 = .ok (.astore 4, 2) := by decide +kernel
theorem dd_L_letter_15 : decode Y_L_letter.2.1 15 = .ok (.iconst 1, 1) := by decide +kernel
theorem dd_L_letter_16 : decode Y_L_letter.2.1 16 = .ok (.ireturn, 1) := by decide +kernel
theorem dd_L_letter_17 : decode Y_L_letter.2.1 17 = .ok (.iconst 0, 1) := by decide +kernel
theorem dd_L_letter_18 : decode Y_L_letter.2.1 18 = .ok (.ireturn, 1) := by decide +kernel
def F_L_letter (a0 : Nat) (a1 : Int32) (a2 : Int32) (a3 : Nat) (M : zM) : zO := zbH (F_X11_letter a0 a1 a2 M) (fun r1 M1 => zck (zin 0 (zal a3)) (zst (zupB M1 a3 (zix 0) r1.toInt64) (fun M2 => zI 0 M2))) (fun E Mh => zit (E = "java/util/NoSuchElementException") (zI 1 Mh) (none))
set_option maxHeartbeats 2000000 in
set_option maxRecDepth 50000 in
theorem ct_L_letter (l : Launch) (hl : l.stackTraces = false) (G : zG) (a0 : Nat) (ha0 : zsh a0 = 11) (a1 : Int32) (a2 : Int32) (a3 : Nat) (ha3 : zsh a3 = 23) (M : zM) : zMh l G Y_L_letter 3 [.ref (G.2.1 + a0), .int a1, .int a2, .ref (G.2.1 + a3)] M (F_L_letter a0 a1 a2 a3 M) := by
  refine zMh_of (by decide +kernel) (Nat.le_of_ble_eq_true rfl) ?_
  show zEv l G Y_L_letter 3 0 0 [(0, .ref (G.2.1 + a0)), (1, .int a1), (2, .int a2), (3, .ref (G.2.1 + a3))] [] M (zbH (F_X11_letter a0 a1 a2 M) (fun r1 M1 => zck (zin 0 (zal a3)) (zst (zupB M1 a3 (zix 0) r1.toInt64) (fun M2 => zI 0 M2))) (fun E Mh => zit (E = "java/util/NoSuchElementException") (zI 1 Mh) (none)))
  refine ev_aload_n dd_L_letter_0 3 rfl ?_
  refine ev_lv (lv' := [(0, .ref (G.2.1 + a0)), (1, .int a1), (2, .int a2)]) [0, 1, 2] rfl ?_
  refine ev_iconst (v := 0) dd_L_letter_1 (by decide) ?_
  refine ev_aload_n dd_L_letter_2 0 rfl ?_
  refine ev_lv (lv' := [(1, .int a1), (2, .int a2)]) [1, 2] rfl ?_
  refine ev_iload_n dd_L_letter_3 0 rfl ?_
  refine ev_lv (lv' := [(2, .int a2)]) [1] rfl ?_
  refine ev_iload_n dd_L_letter_4 0 rfl ?_
  refine ev_lv (lv' := []) [] rfl ?_
  refine ev_callVH (As := [.int a1, .int a2]) cl_RL_24 (ct_X11_letter l hl G a0 ha0 a1 a2 M) dd_L_letter_5 ha0 (by decide) (Nat.le_of_ble_eq_true rfl) (Nat.le_of_ble_eq_true rfl) rfl rfl (fun r1 M1 => ?_) (fun E Mh hne => ?_)
  · refine ev_i2l dd_L_letter_8 ?_
    refine ev_last dd_L_letter_9 ha3 rfl ?_
    refine ev_st (fun M2 => ?_)
    refine ev_goto 17 dd_L_letter_10 (by decide) ?_
    refine ev_iconst (v := 0) dd_L_letter_17 (by decide) ?_
    exact ev_iret dd_L_letter_18 rfl (Nat.le_of_ble_eq_true rfl) rfl
  · by_cases hE0 : E = "java/util/NoSuchElementException"
    · subst hE0
      refine ⟨[], ⟨0, 10, 13, 18⟩, [], rfl, (fun z hz => absurd hz List.not_mem_nil), by decide, by decide, lc_RL_18, by decide +kernel, fun q1 => ?_⟩
      refine ev_it (fun _ => ?_) (fun z => absurd rfl z)
      refine ev_astore (i := 4) (lv' := []) [] dd_L_letter_13 (by decide) rfl ?_
      refine ev_iconst (v := 1) dd_L_letter_15 (by decide) ?_
      exact ev_iret dd_L_letter_16 rfl (Nat.le_of_ble_eq_true rfl) rfl
    exact absurd (by unfold zit; rw [if_neg hE0]) hne
theorem dd_L_lies_0 : decode Y_L_lies.2.1 0 = .ok (.aload_n 3, 1) := by decide +kernel
theorem dd_L_lies_1 : decode Y_L_lies.2.1 1 = .ok (.iconst 0, 1) := by decide +kernel
theorem dd_L_lies_2 : decode Y_L_lies.2.1 2 = .ok (.aload_n 0, 1) := by decide +kernel
theorem dd_L_lies_3 : decode Y_L_lies.2.1 3 = .ok (.iload_n 1, 1) := by decide +kernel
theorem dd_L_lies_4 : decode Y_L_lies.2.1 4 = .ok (.iload_n 2, 1) := by decide +kernel
theorem dd_L_lies_5 : decode Y_L_lies.2.1 5 = .ok (.invokevirtual 75, 3) := by decide +kernel
theorem dd_L_lies_8 : decode Y_L_lies.2.1 8 = .ok (.i2l, 1) := by decide +kernel
theorem dd_L_lies_9 : decode Y_L_lies.2.1 9 = .ok (.lastore, 1) := by decide +kernel
theorem dd_L_lies_10 : decode Y_L_lies.2.1 10 = .ok (.goto 11, 3) := by decide +kernel
theorem dd_L_lies_13 : decode Y_L_lies.2.1 13 = .ok (.astore 4, 2) := by decide +kernel
theorem dd_L_lies_15 : decode Y_L_lies.2.1 15 = .ok (.iconst 1, 1) := by decide +kernel
theorem dd_L_lies_16 : decode Y_L_lies.2.1 16 = .ok (.ireturn, 1) := by decide +kernel
theorem dd_L_lies_17 : decode Y_L_lies.2.1 17 = .ok (.astore 4, 2) := by decide +kernel
theorem dd_L_lies_19 : decode Y_L_lies.2.1 19 = .ok (.iconst 2, 1) := by decide +kernel
theorem dd_L_lies_20 : decode Y_L_lies.2.1 20 = .ok (.ireturn, 1) := by decide +kernel
theorem dd_L_lies_21 : decode Y_L_lies.2.1 21 = .ok (.iconst 0, 1) := by decide +kernel
theorem dd_L_lies_22 : decode Y_L_lies.2.1 22 = .ok (.ireturn, 1) := by decide +kernel
def F_L_lies (a0 : Nat) (a1 : Int32) (a2 : Int32) (a3 : Nat) (M : zM) : zO := zbH (F_X11_lies a0 a1 a2 M) (fun r1 M1 => zck (zin 0 (zal a3)) (zst (zupB M1 a3 (zix 0) r1.toInt64) (fun M2 => zI 0 M2))) (fun E Mh => zit (E = "java/util/NoSuchElementException") (zI 1 Mh) (zit (E = "java/lang/IllegalArgumentException") (zI 2 Mh) (none)))
set_option maxHeartbeats 2000000 in
set_option maxRecDepth 50000 in
theorem ct_L_lies (l : Launch) (hl : l.stackTraces = false) (G : zG) (a0 : Nat) (ha0 : zsh a0 = 11) (a1 : Int32) (a2 : Int32) (a3 : Nat) (ha3 : zsh a3 = 23) (M : zM) : zMh l G Y_L_lies 10 [.ref (G.2.1 + a0), .int a1, .int a2, .ref (G.2.1 + a3)] M (F_L_lies a0 a1 a2 a3 M) := by
  refine zMh_of (by decide +kernel) (Nat.le_of_ble_eq_true rfl) ?_
  show zEv l G Y_L_lies 10 0 0 [(0, .ref (G.2.1 + a0)), (1, .int a1), (2, .int a2), (3, .ref (G.2.1 + a3))] [] M (zbH (F_X11_lies a0 a1 a2 M) (fun r1 M1 => zck (zin 0 (zal a3)) (zst (zupB M1 a3 (zix 0) r1.toInt64) (fun M2 => zI 0 M2))) (fun E Mh => zit (E = "java/util/NoSuchElementException") (zI 1 Mh) (zit (E = "java/lang/IllegalArgumentException") (zI 2 Mh) (none))))
  refine ev_aload_n dd_L_lies_0 3 rfl ?_
  refine ev_lv (lv' := [(0, .ref (G.2.1 + a0)), (1, .int a1), (2, .int a2)]) [0, 1, 2] rfl ?_
  refine ev_iconst (v := 0) dd_L_lies_1 (by decide) ?_
  refine ev_aload_n dd_L_lies_2 0 rfl ?_
  refine ev_lv (lv' := [(1, .int a1), (2, .int a2)]) [1, 2] rfl ?_
  refine ev_iload_n dd_L_lies_3 0 rfl ?_
  refine ev_lv (lv' := [(2, .int a2)]) [1] rfl ?_
  refine ev_iload_n dd_L_lies_4 0 rfl ?_
  refine ev_lv (lv' := []) [] rfl ?_
  refine ev_callVH (As := [.int a1, .int a2]) cl_RL_75 (ct_X11_lies l hl G a0 ha0 a1 a2 M) dd_L_lies_5 ha0 (by decide) (Nat.le_of_ble_eq_true rfl) (Nat.le_of_ble_eq_true rfl) rfl rfl (fun r1 M1 => ?_) (fun E Mh hne => ?_)
  · refine ev_i2l dd_L_lies_8 ?_
    refine ev_last dd_L_lies_9 ha3 rfl ?_
    refine ev_st (fun M2 => ?_)
    refine ev_goto 21 dd_L_lies_10 (by decide) ?_
    refine ev_iconst (v := 0) dd_L_lies_21 (by decide) ?_
    exact ev_iret dd_L_lies_22 rfl (Nat.le_of_ble_eq_true rfl) rfl
  · by_cases hE0 : E = "java/util/NoSuchElementException"
    · subst hE0
      refine ⟨[], ⟨0, 10, 13, 18⟩, [⟨0, 10, 17, 13⟩], rfl, (fun z hz => absurd hz List.not_mem_nil), by decide, by decide, lc_RL_18, by decide +kernel, fun q1 => ?_⟩
      refine ev_it (fun _ => ?_) (fun z => absurd rfl z)
      refine ev_astore (i := 4) (lv' := []) [] dd_L_lies_13 (by decide) rfl ?_
      refine ev_iconst (v := 1) dd_L_lies_15 (by decide) ?_
      exact ev_iret dd_L_lies_16 rfl (Nat.le_of_ble_eq_true rfl) rfl
    by_cases hE1 : E = "java/lang/IllegalArgumentException"
    · subst hE1
      refine ⟨[⟨0, 10, 13, 18⟩], ⟨0, 10, 17, 13⟩, [], rfl, (fun z hz => (List.mem_cons.mp hz).elim (fun e => by rw [e]; exact ⟨by decide, by decide, _, lc_RL_18, by decide +kernel⟩) (fun e => absurd e List.not_mem_nil)), by decide, by decide, lc_RL_13, by decide +kernel, fun q2 => ?_⟩
      refine ev_it (fun z => absurd z (by decide)) (fun _ => ?_)
      refine ev_it (fun _ => ?_) (fun z => absurd rfl z)
      refine ev_astore (i := 4) (lv' := []) [] dd_L_lies_17 (by decide) rfl ?_
      refine ev_iconst (v := 2) dd_L_lies_19 (by decide) ?_
      exact ev_iret dd_L_lies_20 rfl (Nat.le_of_ble_eq_true rfl) rfl
    exact absurd (by unfold zit; rw [if_neg hE0, if_neg hE1]) hne
theorem dd_L_look_0 : decode Y_L_look.2.1 0 = .ok (.aload_n 2, 1) := by decide +kernel
theorem dd_L_look_1 : decode Y_L_look.2.1 1 = .ok (.iconst 0, 1) := by decide +kernel
theorem dd_L_look_2 : decode Y_L_look.2.1 2 = .ok (.aload_n 0, 1) := by decide +kernel
theorem dd_L_look_3 : decode Y_L_look.2.1 3 = .ok (.iload_n 1, 1) := by decide +kernel
theorem dd_L_look_4 : decode Y_L_look.2.1 4 = .ok (.invokevirtual 84, 3) := by decide +kernel
theorem dd_L_look_7 : decode Y_L_look.2.1 7 = .ok (.i2l, 1) := by decide +kernel
theorem dd_L_look_8 : decode Y_L_look.2.1 8 = .ok (.lastore, 1) := by decide +kernel
theorem dd_L_look_9 : decode Y_L_look.2.1 9 = .ok (.goto 6, 3) := by decide +kernel
theorem dd_L_look_12 : decode Y_L_look.2.1 12 = .ok (.astore_n 3, 1) := by decide +kernel
theorem dd_L_look_13 : decode Y_L_look.2.1 13 = .ok (.iconst 1, 1) := by decide +kernel
theorem dd_L_look_14 : decode Y_L_look.2.1 14 = .ok (.ireturn, 1) := by decide +kernel
theorem dd_L_look_15 : decode Y_L_look.2.1 15 = .ok (.iconst 0, 1) := by decide +kernel
theorem dd_L_look_16 : decode Y_L_look.2.1 16 = .ok (.ireturn, 1) := by decide +kernel
def F_L_look (a0 : Nat) (a1 : Int32) (a2 : Nat) (M : zM) : zO := zbH (F_X11_look a0 a1 M) (fun r1 M1 => zck (zin 0 (zal a2)) (zst (zupB M1 a2 (zix 0) r1.toInt64) (fun M2 => zI 0 M2))) (fun E Mh => zit (E = "java/lang/IllegalArgumentException") (zI 1 Mh) (none))
set_option maxHeartbeats 2000000 in
set_option maxRecDepth 50000 in
theorem ct_L_look (l : Launch) (hl : l.stackTraces = false) (G : zG) (a0 : Nat) (ha0 : zsh a0 = 11) (a1 : Int32) (a2 : Nat) (ha2 : zsh a2 = 23) (M : zM) : zMh l G Y_L_look 111 [.ref (G.2.1 + a0), .int a1, .ref (G.2.1 + a2)] M (F_L_look a0 a1 a2 M) := by
  refine zMh_of (by decide +kernel) (Nat.le_of_ble_eq_true rfl) ?_
  show zEv l G Y_L_look 111 0 0 [(0, .ref (G.2.1 + a0)), (1, .int a1), (2, .ref (G.2.1 + a2))] [] M (zbH (F_X11_look a0 a1 M) (fun r1 M1 => zck (zin 0 (zal a2)) (zst (zupB M1 a2 (zix 0) r1.toInt64) (fun M2 => zI 0 M2))) (fun E Mh => zit (E = "java/lang/IllegalArgumentException") (zI 1 Mh) (none)))
  refine ev_aload_n dd_L_look_0 2 rfl ?_
  refine ev_lv (lv' := [(0, .ref (G.2.1 + a0)), (1, .int a1)]) [0, 1] rfl ?_
  refine ev_iconst (v := 0) dd_L_look_1 (by decide) ?_
  refine ev_aload_n dd_L_look_2 0 rfl ?_
  refine ev_lv (lv' := [(1, .int a1)]) [1] rfl ?_
  refine ev_iload_n dd_L_look_3 0 rfl ?_
  refine ev_lv (lv' := []) [] rfl ?_
  refine ev_callVH (As := [.int a1]) cl_RL_84 (ct_X11_look l hl G a0 ha0 a1 M) dd_L_look_4 ha0 (by decide) (Nat.le_of_ble_eq_true rfl) (Nat.le_of_ble_eq_true rfl) rfl rfl (fun r1 M1 => ?_) (fun E Mh hne => ?_)
  · refine ev_i2l dd_L_look_7 ?_
    refine ev_last dd_L_look_8 ha2 rfl ?_
    refine ev_st (fun M2 => ?_)
    refine ev_goto 15 dd_L_look_9 (by decide) ?_
    refine ev_iconst (v := 0) dd_L_look_15 (by decide) ?_
    exact ev_iret dd_L_look_16 rfl (Nat.le_of_ble_eq_true rfl) rfl
  · by_cases hE0 : E = "java/lang/IllegalArgumentException"
    · subst hE0
      refine ⟨[], ⟨0, 9, 12, 13⟩, [], rfl, (fun z hz => absurd hz List.not_mem_nil), by decide, by decide, lc_RL_13, by decide +kernel, fun q1 => ?_⟩
      refine ev_it (fun _ => ?_) (fun z => absurd rfl z)
      refine ev_astore_n (i := 3) (lv' := []) [] dd_L_look_12 rfl (by decide) rfl ?_
      refine ev_iconst (v := 1) dd_L_look_13 (by decide) ?_
      exact ev_iret dd_L_look_14 rfl (Nat.le_of_ble_eq_true rfl) rfl
    exact absurd (by unfold zit; rw [if_neg hE0]) hne
theorem dd_L_may_0 : decode Y_L_may.2.1 0 = .ok (.aload_n 3, 1) := by decide +kernel
theorem dd_L_may_1 : decode Y_L_may.2.1 1 = .ok (.iconst 0, 1) := by decide +kernel
theorem dd_L_may_2 : decode Y_L_may.2.1 2 = .ok (.aload_n 0, 1) := by decide +kernel
theorem dd_L_may_3 : decode Y_L_may.2.1 3 = .ok (.iload_n 1, 1) := by decide +kernel
theorem dd_L_may_4 : decode Y_L_may.2.1 4 = .ok (.iload_n 2, 1) := by decide +kernel
theorem dd_L_may_5 : decode Y_L_may.2.1 5 = .ok (.invokevirtual 33, 3) := by decide +kernel
theorem dd_L_may_8 : decode Y_L_may.2.1 8 = .ok (.ifCond .eq 7, 3) := by decide +kernel
theorem dd_L_may_11 : decode Y_L_may.2.1 11 = .ok (.lconst 1, 1) := by decide +kernel
theorem dd_L_may_12 : decode Y_L_may.2.1 12 = .ok (.goto 4, 3) := by decide +kernel
theorem dd_L_may_15 : decode Y_L_may.2.1 15 = .ok (.lconst 0, 1) := by decide +kernel
theorem dd_L_may_16 : decode Y_L_may.2.1 16 = .ok (.lastore, 1) := by decide +kernel
theorem dd_L_may_17 : decode Y_L_may.2.1 17 = .ok (.goto 11, 3) := by decide +kernel
theorem dd_L_may_20 : decode Y_L_may.2.1 20 = .ok (.astore 4, 2) := by decide +kernel
theorem dd_L_may_22 : decode Y_L_may.2.1 22 = .ok (.iconst 1, 1) := by decide +kernel
theorem dd_L_may_23 : decode Y_L_may.2.1 23 = .ok (.ireturn, 1) := by decide +kernel
theorem dd_L_may_24 : decode Y_L_may.2.1 24 = .ok (.astore 4, 2) := by decide +kernel
theorem dd_L_may_26 : decode Y_L_may.2.1 26 = .ok (.iconst 2, 1) := by decide +kernel
theorem dd_L_may_27 : decode Y_L_may.2.1 27 = .ok (.ireturn, 1) := by decide +kernel
theorem dd_L_may_28 : decode Y_L_may.2.1 28 = .ok (.iconst 0, 1) := by decide +kernel
theorem dd_L_may_29 : decode Y_L_may.2.1 29 = .ok (.ireturn, 1) := by decide +kernel
def F_L_may (a0 : Nat) (a1 : Int32) (a2 : Int32) (a3 : Nat) (M : zM) : zO := zbH (F_X11_may a0 a1 a2 M) (fun r1 M1 => zjo (fun (w1 : Int64) (M2 : zM) => zck (zin 0 (zal a3)) (zst (zupB M2 a3 (zix 0) w1) (fun M3 => zI 0 M3))) (fun (k1 : Int64 → zM → zO) => zit (r1 = 0) (k1 0 M1) (k1 1 M1))) (fun E Mh => zit (E = "java/util/NoSuchElementException") (zI 1 Mh) (zit (E = "java/lang/IllegalArgumentException") (zI 2 Mh) (none)))
set_option maxHeartbeats 2000000 in
set_option maxRecDepth 50000 in
theorem ct_L_may (l : Launch) (hl : l.stackTraces = false) (G : zG) (a0 : Nat) (ha0 : zsh a0 = 11) (a1 : Int32) (a2 : Int32) (a3 : Nat) (ha3 : zsh a3 = 23) (M : zM) : zMh l G Y_L_may 13 [.ref (G.2.1 + a0), .int a1, .int a2, .ref (G.2.1 + a3)] M (F_L_may a0 a1 a2 a3 M) := by
  refine zMh_of (by decide +kernel) (Nat.le_of_ble_eq_true rfl) ?_
  show zEv l G Y_L_may 13 0 0 [(0, .ref (G.2.1 + a0)), (1, .int a1), (2, .int a2), (3, .ref (G.2.1 + a3))] [] M (zbH (F_X11_may a0 a1 a2 M) (fun r1 M1 => zjo (fun (w1 : Int64) (M2 : zM) => zck (zin 0 (zal a3)) (zst (zupB M2 a3 (zix 0) w1) (fun M3 => zI 0 M3))) (fun (k1 : Int64 → zM → zO) => zit (r1 = 0) (k1 0 M1) (k1 1 M1))) (fun E Mh => zit (E = "java/util/NoSuchElementException") (zI 1 Mh) (zit (E = "java/lang/IllegalArgumentException") (zI 2 Mh) (none))))
  refine ev_aload_n dd_L_may_0 3 rfl ?_
  refine ev_lv (lv' := [(0, .ref (G.2.1 + a0)), (1, .int a1), (2, .int a2)]) [0, 1, 2] rfl ?_
  refine ev_iconst (v := 0) dd_L_may_1 (by decide) ?_
  refine ev_aload_n dd_L_may_2 0 rfl ?_
  refine ev_lv (lv' := [(1, .int a1), (2, .int a2)]) [1, 2] rfl ?_
  refine ev_iload_n dd_L_may_3 0 rfl ?_
  refine ev_lv (lv' := [(2, .int a2)]) [1] rfl ?_
  refine ev_iload_n dd_L_may_4 0 rfl ?_
  refine ev_lv (lv' := []) [] rfl ?_
  refine ev_callVH (As := [.int a1, .int a2]) cl_RL_33 (ct_X11_may l hl G a0 ha0 a1 a2 M) dd_L_may_5 ha0 (by decide) (Nat.le_of_ble_eq_true rfl) (Nat.le_of_ble_eq_true rfl) rfl rfl (fun r1 M1 => ?_) (fun E Mh hne => ?_)
  · refine ev_jo (fun (k1 : Int64 → zM → zO) => ∀ (w1 : Int64) (M2 : zM), zEv l G Y_L_may 13 3 16 [] [.long w1, .int 0, .ref (G.2.1 + a3)] M2 (k1 w1 M2)) ?_ (fun k1 hk1 => ?_)
    · intro w1 M2
      refine ev_last dd_L_may_16 ha3 rfl ?_
      refine ev_st (fun M3 => ?_)
      refine ev_goto 28 dd_L_may_17 (by decide) ?_
      refine ev_iconst (v := 0) dd_L_may_28 (by decide) ?_
      exact ev_iret dd_L_may_29 rfl (Nat.le_of_ble_eq_true rfl) rfl
    · refine ev_if_eq 15 dd_L_may_8 (by decide) ?_ ?_
      · refine ev_lconst (v := 0) dd_L_may_15 (by decide) ?_
        exact hk1 _ _
      · refine ev_lconst (v := 1) dd_L_may_11 (by decide) ?_
        refine ev_goto 16 dd_L_may_12 (by decide) ?_
        exact hk1 _ _
  · by_cases hE0 : E = "java/util/NoSuchElementException"
    · subst hE0
      refine ⟨[], ⟨0, 17, 20, 18⟩, [⟨0, 17, 24, 13⟩], rfl, (fun z hz => absurd hz List.not_mem_nil), by decide, by decide, lc_RL_18, by decide +kernel, fun q1 => ?_⟩
      refine ev_it (fun _ => ?_) (fun z => absurd rfl z)
      refine ev_astore (i := 4) (lv' := []) [] dd_L_may_20 (by decide) rfl ?_
      refine ev_iconst (v := 1) dd_L_may_22 (by decide) ?_
      exact ev_iret dd_L_may_23 rfl (Nat.le_of_ble_eq_true rfl) rfl
    by_cases hE1 : E = "java/lang/IllegalArgumentException"
    · subst hE1
      refine ⟨[⟨0, 17, 20, 18⟩], ⟨0, 17, 24, 13⟩, [], rfl, (fun z hz => (List.mem_cons.mp hz).elim (fun e => by rw [e]; exact ⟨by decide, by decide, _, lc_RL_18, by decide +kernel⟩) (fun e => absurd e List.not_mem_nil)), by decide, by decide, lc_RL_13, by decide +kernel, fun q2 => ?_⟩
      refine ev_it (fun z => absurd z (by decide)) (fun _ => ?_)
      refine ev_it (fun _ => ?_) (fun z => absurd rfl z)
      refine ev_astore (i := 4) (lv' := []) [] dd_L_may_24 (by decide) rfl ?_
      refine ev_iconst (v := 2) dd_L_may_26 (by decide) ?_
      exact ev_iret dd_L_may_27 rfl (Nat.le_of_ble_eq_true rfl) rfl
    exact absurd (by unfold zit; rw [if_neg hE0, if_neg hE1]) hne
theorem dd_L_name_0 : decode Y_L_name.2.1 0 = .ok (.aload_n 3, 1) := by decide +kernel
theorem dd_L_name_1 : decode Y_L_name.2.1 1 = .ok (.iconst 0, 1) := by decide +kernel
theorem dd_L_name_2 : decode Y_L_name.2.1 2 = .ok (.aload_n 0, 1) := by decide +kernel
theorem dd_L_name_3 : decode Y_L_name.2.1 3 = .ok (.iload_n 1, 1) := by decide +kernel
theorem dd_L_name_4 : decode Y_L_name.2.1 4 = .ok (.iload_n 2, 1) := by decide +kernel
theorem dd_L_name_5 : decode Y_L_name.2.1 5 = .ok (.invokevirtual 20, 3) := by decide +kernel
theorem dd_L_name_8 : decode Y_L_name.2.1 8 = .ok (.i2l, 1) := by decide +kernel
theorem dd_L_name_9 : decode Y_L_name.2.1 9 = .ok (.lastore, 1) := by decide +kernel
theorem dd_L_name_10 : decode Y_L_name.2.1 10 = .ok (.goto 7, 3) := by decide +kernel
theorem dd_L_name_13 : decode Y_L_name.2.1 13 = .ok (.astore 4, 2) := by decide +kernel
theorem dd_L_name_15 : decode Y_L_name.2.1 15 = .ok (.iconst 1, 1) := by decide +kernel
theorem dd_L_name_16 : decode Y_L_name.2.1 16 = .ok (.ireturn, 1) := by decide +kernel
theorem dd_L_name_17 : decode Y_L_name.2.1 17 = .ok (.iconst 0, 1) := by decide +kernel
theorem dd_L_name_18 : decode Y_L_name.2.1 18 = .ok (.ireturn, 1) := by decide +kernel
def F_L_name (a0 : Nat) (a1 : Int32) (a2 : Int32) (a3 : Nat) (M : zM) : zO := zbH (F_X11_name a0 a1 a2 M) (fun r1 M1 => zck (zin 0 (zal a3)) (zst (zupB M1 a3 (zix 0) r1.toInt64) (fun M2 => zI 0 M2))) (fun E Mh => zit (E = "java/util/NoSuchElementException") (zI 1 Mh) (none))
set_option maxHeartbeats 2000000 in
set_option maxRecDepth 50000 in
theorem ct_L_name (l : Launch) (hl : l.stackTraces = false) (G : zG) (a0 : Nat) (ha0 : zsh a0 = 11) (a1 : Int32) (a2 : Int32) (a3 : Nat) (ha3 : zsh a3 = 23) (M : zM) : zMh l G Y_L_name 3 [.ref (G.2.1 + a0), .int a1, .int a2, .ref (G.2.1 + a3)] M (F_L_name a0 a1 a2 a3 M) := by
  refine zMh_of (by decide +kernel) (Nat.le_of_ble_eq_true rfl) ?_
  show zEv l G Y_L_name 3 0 0 [(0, .ref (G.2.1 + a0)), (1, .int a1), (2, .int a2), (3, .ref (G.2.1 + a3))] [] M (zbH (F_X11_name a0 a1 a2 M) (fun r1 M1 => zck (zin 0 (zal a3)) (zst (zupB M1 a3 (zix 0) r1.toInt64) (fun M2 => zI 0 M2))) (fun E Mh => zit (E = "java/util/NoSuchElementException") (zI 1 Mh) (none)))
  refine ev_aload_n dd_L_name_0 3 rfl ?_
  refine ev_lv (lv' := [(0, .ref (G.2.1 + a0)), (1, .int a1), (2, .int a2)]) [0, 1, 2] rfl ?_
  refine ev_iconst (v := 0) dd_L_name_1 (by decide) ?_
  refine ev_aload_n dd_L_name_2 0 rfl ?_
  refine ev_lv (lv' := [(1, .int a1), (2, .int a2)]) [1, 2] rfl ?_
  refine ev_iload_n dd_L_name_3 0 rfl ?_
  refine ev_lv (lv' := [(2, .int a2)]) [1] rfl ?_
  refine ev_iload_n dd_L_name_4 0 rfl ?_
  refine ev_lv (lv' := []) [] rfl ?_
  refine ev_callVH (As := [.int a1, .int a2]) cl_RL_20 (ct_X11_name l hl G a0 ha0 a1 a2 M) dd_L_name_5 ha0 (by decide) (Nat.le_of_ble_eq_true rfl) (Nat.le_of_ble_eq_true rfl) rfl rfl (fun r1 M1 => ?_) (fun E Mh hne => ?_)
  · refine ev_i2l dd_L_name_8 ?_
    refine ev_last dd_L_name_9 ha3 rfl ?_
    refine ev_st (fun M2 => ?_)
    refine ev_goto 17 dd_L_name_10 (by decide) ?_
    refine ev_iconst (v := 0) dd_L_name_17 (by decide) ?_
    exact ev_iret dd_L_name_18 rfl (Nat.le_of_ble_eq_true rfl) rfl
  · by_cases hE0 : E = "java/util/NoSuchElementException"
    · subst hE0
      refine ⟨[], ⟨0, 10, 13, 18⟩, [], rfl, (fun z hz => absurd hz List.not_mem_nil), by decide, by decide, lc_RL_18, by decide +kernel, fun q1 => ?_⟩
      refine ev_it (fun _ => ?_) (fun z => absurd rfl z)
      refine ev_astore (i := 4) (lv' := []) [] dd_L_name_13 (by decide) rfl ?_
      refine ev_iconst (v := 1) dd_L_name_15 (by decide) ?_
      exact ev_iret dd_L_name_16 rfl (Nat.le_of_ble_eq_true rfl) rfl
    exact absurd (by unfold zit; rw [if_neg hE0]) hne
theorem dd_L_owed_0 : decode Y_L_owed.2.1 0 = .ok (.aload_n 2, 1) := by decide +kernel
theorem dd_L_owed_1 : decode Y_L_owed.2.1 1 = .ok (.iconst 0, 1) := by decide +kernel
theorem dd_L_owed_2 : decode Y_L_owed.2.1 2 = .ok (.aload_n 0, 1) := by decide +kernel
theorem dd_L_owed_3 : decode Y_L_owed.2.1 3 = .ok (.iload_n 1, 1) := by decide +kernel
theorem dd_L_owed_4 : decode Y_L_owed.2.1 4 = .ok (.invokevirtual 96, 3) := by decide +kernel
theorem dd_L_owed_7 : decode Y_L_owed.2.1 7 = .ok (.i2l, 1) := by decide +kernel
theorem dd_L_owed_8 : decode Y_L_owed.2.1 8 = .ok (.lastore, 1) := by decide +kernel
theorem dd_L_owed_9 : decode Y_L_owed.2.1 9 = .ok (.goto 6, 3) := by decide +kernel
theorem dd_L_owed_12 : decode Y_L_owed.2.1 12 = .ok (.astore_n 3, 1) := by decide +kernel
theorem dd_L_owed_13 : decode Y_L_owed.2.1 13 = .ok (.iconst 1, 1) := by decide +kernel
theorem dd_L_owed_14 : decode Y_L_owed.2.1 14 = .ok (.ireturn, 1) := by decide +kernel
theorem dd_L_owed_15 : decode Y_L_owed.2.1 15 = .ok (.iconst 0, 1) := by decide +kernel
theorem dd_L_owed_16 : decode Y_L_owed.2.1 16 = .ok (.ireturn, 1) := by decide +kernel
def F_L_owed (a0 : Nat) (a1 : Int32) (a2 : Nat) (M : zM) : zO := zbH (F_X11_owed a0 a1 M) (fun r1 M1 => zck (zin 0 (zal a2)) (zst (zupB M1 a2 (zix 0) r1.toInt64) (fun M2 => zI 0 M2))) (fun E Mh => zit (E = "java/util/NoSuchElementException") (zI 1 Mh) (none))
set_option maxHeartbeats 2000000 in
set_option maxRecDepth 50000 in
theorem ct_L_owed (l : Launch) (hl : l.stackTraces = false) (G : zG) (a0 : Nat) (ha0 : zsh a0 = 11) (a1 : Int32) (a2 : Nat) (ha2 : zsh a2 = 23) (M : zM) : zMh l G Y_L_owed 10 [.ref (G.2.1 + a0), .int a1, .ref (G.2.1 + a2)] M (F_L_owed a0 a1 a2 M) := by
  refine zMh_of (by decide +kernel) (Nat.le_of_ble_eq_true rfl) ?_
  show zEv l G Y_L_owed 10 0 0 [(0, .ref (G.2.1 + a0)), (1, .int a1), (2, .ref (G.2.1 + a2))] [] M (zbH (F_X11_owed a0 a1 M) (fun r1 M1 => zck (zin 0 (zal a2)) (zst (zupB M1 a2 (zix 0) r1.toInt64) (fun M2 => zI 0 M2))) (fun E Mh => zit (E = "java/util/NoSuchElementException") (zI 1 Mh) (none)))
  refine ev_aload_n dd_L_owed_0 2 rfl ?_
  refine ev_lv (lv' := [(0, .ref (G.2.1 + a0)), (1, .int a1)]) [0, 1] rfl ?_
  refine ev_iconst (v := 0) dd_L_owed_1 (by decide) ?_
  refine ev_aload_n dd_L_owed_2 0 rfl ?_
  refine ev_lv (lv' := [(1, .int a1)]) [1] rfl ?_
  refine ev_iload_n dd_L_owed_3 0 rfl ?_
  refine ev_lv (lv' := []) [] rfl ?_
  refine ev_callVH (As := [.int a1]) cl_RL_96 (ct_X11_owed l hl G a0 ha0 a1 M) dd_L_owed_4 ha0 (by decide) (Nat.le_of_ble_eq_true rfl) (Nat.le_of_ble_eq_true rfl) rfl rfl (fun r1 M1 => ?_) (fun E Mh hne => ?_)
  · refine ev_i2l dd_L_owed_7 ?_
    refine ev_last dd_L_owed_8 ha2 rfl ?_
    refine ev_st (fun M2 => ?_)
    refine ev_goto 15 dd_L_owed_9 (by decide) ?_
    refine ev_iconst (v := 0) dd_L_owed_15 (by decide) ?_
    exact ev_iret dd_L_owed_16 rfl (Nat.le_of_ble_eq_true rfl) rfl
  · by_cases hE0 : E = "java/util/NoSuchElementException"
    · subst hE0
      refine ⟨[], ⟨0, 9, 12, 18⟩, [], rfl, (fun z hz => absurd hz List.not_mem_nil), by decide, by decide, lc_RL_18, by decide +kernel, fun q1 => ?_⟩
      refine ev_it (fun _ => ?_) (fun z => absurd rfl z)
      refine ev_astore_n (i := 3) (lv' := []) [] dd_L_owed_12 rfl (by decide) rfl ?_
      refine ev_iconst (v := 1) dd_L_owed_13 (by decide) ?_
      exact ev_iret dd_L_owed_14 rfl (Nat.le_of_ble_eq_true rfl) rfl
    exact absurd (by unfold zit; rw [if_neg hE0]) hne
theorem dd_L_prefers_0 : decode Y_L_prefers.2.1 0 = .ok (.aload 4, 2) := by decide +kernel
theorem dd_L_prefers_2 : decode Y_L_prefers.2.1 2 = .ok (.iconst 0, 1) := by decide +kernel
theorem dd_L_prefers_3 : decode Y_L_prefers.2.1 3 = .ok (.aload_n 0, 1) := by decide +kernel
theorem dd_L_prefers_4 : decode Y_L_prefers.2.1 4 = .ok (.iload_n 1, 1) := by decide +kernel
theorem dd_L_prefers_5 : decode Y_L_prefers.2.1 5 = .ok (.iload_n 2, 1) := by decide +kernel
theorem dd_L_prefers_6 : decode Y_L_prefers.2.1 6 = .ok (.iload_n 3, 1) := by decide +kernel
theorem dd_L_prefers_7 : decode Y_L_prefers.2.1 7 = .ok (.invokevirtual 43, 3) := by decide +kernel
theorem dd_L_prefers_10 : decode Y_L_prefers.2.1 10 = .ok (.ifCond .eq 7, 3) := by decide +kernel
theorem dd_L_prefers_13 : decode Y_L_prefers.2.1 13 = .ok (.lconst 1, 1) := by decide +kernel
theorem dd_L_prefers_14 : decode Y_L_prefers.2.1 14 = .ok (.goto 4, 3) := by decide +kernel
theorem dd_L_prefers_17 : decode Y_L_prefers.2.1 17 = .ok (.lconst 0, 1) := by decide +kernel
theorem dd_L_prefers_18 : decode Y_L_prefers.2.1 18 = .ok (.lastore, 1) := by decide +kernel
theorem dd_L_prefers_19 : decode Y_L_prefers.2.1 19 = .ok (.goto 7, 3) := by decide +kernel
theorem dd_L_prefers_22 : decode Y_L_prefers.2.1 22 = .ok (.astore 5, 2) := by decide +kernel
theorem dd_L_prefers_24 : decode Y_L_prefers.2.1 24 = .ok (.iconst 1, 1) := by decide +kernel
theorem dd_L_prefers_25 : decode Y_L_prefers.2.1 25 = .ok (.ireturn, 1) := by decide +kernel
theorem dd_L_prefers_26 : decode Y_L_prefers.2.1 26 = .ok (.iconst 0, 1) := by decide +kernel
theorem dd_L_prefers_27 : decode Y_L_prefers.2.1 27 = .ok (.ireturn, 1) := by decide +kernel
def F_L_prefers (a0 : Nat) (a1 : Int32) (a2 : Int32) (a3 : Int32) (a4 : Nat) (M : zM) : zO := zbH (F_X11_prefers a0 a1 a2 a3 M) (fun r1 M1 => zjo (fun (w1 : Int64) (M2 : zM) => zck (zin 0 (zal a4)) (zst (zupB M2 a4 (zix 0) w1) (fun M3 => zI 0 M3))) (fun (k1 : Int64 → zM → zO) => zit (r1 = 0) (k1 0 M1) (k1 1 M1))) (fun E Mh => zit (E = "java/util/NoSuchElementException") (zI 1 Mh) (none))
set_option maxHeartbeats 2000000 in
set_option maxRecDepth 50000 in
theorem ct_L_prefers (l : Launch) (hl : l.stackTraces = false) (G : zG) (a0 : Nat) (ha0 : zsh a0 = 11) (a1 : Int32) (a2 : Int32) (a3 : Int32) (a4 : Nat) (ha4 : zsh a4 = 23) (M : zM) : zMh l G Y_L_prefers 4 [.ref (G.2.1 + a0), .int a1, .int a2, .int a3, .ref (G.2.1 + a4)] M (F_L_prefers a0 a1 a2 a3 a4 M) := by
  refine zMh_of (by decide +kernel) (Nat.le_of_ble_eq_true rfl) ?_
  show zEv l G Y_L_prefers 4 0 0 [(0, .ref (G.2.1 + a0)), (1, .int a1), (2, .int a2), (3, .int a3), (4, .ref (G.2.1 + a4))] [] M (zbH (F_X11_prefers a0 a1 a2 a3 M) (fun r1 M1 => zjo (fun (w1 : Int64) (M2 : zM) => zck (zin 0 (zal a4)) (zst (zupB M2 a4 (zix 0) w1) (fun M3 => zI 0 M3))) (fun (k1 : Int64 → zM → zO) => zit (r1 = 0) (k1 0 M1) (k1 1 M1))) (fun E Mh => zit (E = "java/util/NoSuchElementException") (zI 1 Mh) (none)))
  refine ev_aload dd_L_prefers_0 4 rfl ?_
  refine ev_lv (lv' := [(0, .ref (G.2.1 + a0)), (1, .int a1), (2, .int a2), (3, .int a3)]) [0, 1, 2, 3] rfl ?_
  refine ev_iconst (v := 0) dd_L_prefers_2 (by decide) ?_
  refine ev_aload_n dd_L_prefers_3 0 rfl ?_
  refine ev_lv (lv' := [(1, .int a1), (2, .int a2), (3, .int a3)]) [1, 2, 3] rfl ?_
  refine ev_iload_n dd_L_prefers_4 0 rfl ?_
  refine ev_lv (lv' := [(2, .int a2), (3, .int a3)]) [1, 2] rfl ?_
  refine ev_iload_n dd_L_prefers_5 0 rfl ?_
  refine ev_lv (lv' := [(3, .int a3)]) [1] rfl ?_
  refine ev_iload_n dd_L_prefers_6 0 rfl ?_
  refine ev_lv (lv' := []) [] rfl ?_
  refine ev_callVH (As := [.int a1, .int a2, .int a3]) cl_RL_43 (ct_X11_prefers l hl G a0 ha0 a1 a2 a3 M) dd_L_prefers_7 ha0 (by decide) (Nat.le_of_ble_eq_true rfl) (Nat.le_of_ble_eq_true rfl) rfl rfl (fun r1 M1 => ?_) (fun E Mh hne => ?_)
  · refine ev_jo (fun (k1 : Int64 → zM → zO) => ∀ (w1 : Int64) (M2 : zM), zEv l G Y_L_prefers 4 3 18 [] [.long w1, .int 0, .ref (G.2.1 + a4)] M2 (k1 w1 M2)) ?_ (fun k1 hk1 => ?_)
    · intro w1 M2
      refine ev_last dd_L_prefers_18 ha4 rfl ?_
      refine ev_st (fun M3 => ?_)
      refine ev_goto 26 dd_L_prefers_19 (by decide) ?_
      refine ev_iconst (v := 0) dd_L_prefers_26 (by decide) ?_
      exact ev_iret dd_L_prefers_27 rfl (Nat.le_of_ble_eq_true rfl) rfl
    · refine ev_if_eq 17 dd_L_prefers_10 (by decide) ?_ ?_
      · refine ev_lconst (v := 0) dd_L_prefers_17 (by decide) ?_
        exact hk1 _ _
      · refine ev_lconst (v := 1) dd_L_prefers_13 (by decide) ?_
        refine ev_goto 18 dd_L_prefers_14 (by decide) ?_
        exact hk1 _ _
  · by_cases hE0 : E = "java/util/NoSuchElementException"
    · subst hE0
      refine ⟨[], ⟨0, 19, 22, 18⟩, [], rfl, (fun z hz => absurd hz List.not_mem_nil), by decide, by decide, lc_RL_18, by decide +kernel, fun q1 => ?_⟩
      refine ev_it (fun _ => ?_) (fun z => absurd rfl z)
      refine ev_astore (i := 5) (lv' := []) [] dd_L_prefers_22 (by decide) rfl ?_
      refine ev_iconst (v := 1) dd_L_prefers_24 (by decide) ?_
      exact ev_iret dd_L_prefers_25 rfl (Nat.le_of_ble_eq_true rfl) rfl
    exact absurd (by unfold zit; rw [if_neg hE0]) hne
theorem dd_L_round_0 : decode Y_L_round.2.1 0 = .ok (.aload_n 2, 1) := by decide +kernel
theorem dd_L_round_1 : decode Y_L_round.2.1 1 = .ok (.iconst 0, 1) := by decide +kernel
theorem dd_L_round_2 : decode Y_L_round.2.1 2 = .ok (.aload_n 0, 1) := by decide +kernel
theorem dd_L_round_3 : decode Y_L_round.2.1 3 = .ok (.iload_n 1, 1) := by decide +kernel
theorem dd_L_round_4 : decode Y_L_round.2.1 4 = .ok (.invokevirtual 50, 3) := by decide +kernel
theorem dd_L_round_7 : decode Y_L_round.2.1 7 = .ok (.i2l, 1) := by decide +kernel
theorem dd_L_round_8 : decode Y_L_round.2.1 8 = .ok (.lastore, 1) := by decide +kernel
theorem dd_L_round_9 : decode Y_L_round.2.1 9 = .ok (.goto 6, 3) := by decide +kernel
theorem dd_L_round_12 : decode Y_L_round.2.1 12 = .ok (.astore_n 3, 1) := by decide +kernel
theorem dd_L_round_13 : decode Y_L_round.2.1 13 = .ok (.iconst 1, 1) := by decide +kernel
theorem dd_L_round_14 : decode Y_L_round.2.1 14 = .ok (.ireturn, 1) := by decide +kernel
theorem dd_L_round_15 : decode Y_L_round.2.1 15 = .ok (.iconst 0, 1) := by decide +kernel
theorem dd_L_round_16 : decode Y_L_round.2.1 16 = .ok (.ireturn, 1) := by decide +kernel
def F_L_round (a0 : Nat) (a1 : Int32) (a2 : Nat) (M : zM) : zO := zbH (F_X11_round a0 a1 M) (fun r1 M1 => zck (zin 0 (zal a2)) (zst (zupB M1 a2 (zix 0) r1.toInt64) (fun M2 => zI 0 M2))) (fun E Mh => zit (E = "java/util/NoSuchElementException") (zI 1 Mh) (none))
set_option maxHeartbeats 2000000 in
set_option maxRecDepth 50000 in
theorem ct_L_round (l : Launch) (hl : l.stackTraces = false) (G : zG) (a0 : Nat) (ha0 : zsh a0 = 11) (a1 : Int32) (a2 : Nat) (ha2 : zsh a2 = 23) (M : zM) : zMh l G Y_L_round 11 [.ref (G.2.1 + a0), .int a1, .ref (G.2.1 + a2)] M (F_L_round a0 a1 a2 M) := by
  refine zMh_of (by decide +kernel) (Nat.le_of_ble_eq_true rfl) ?_
  show zEv l G Y_L_round 11 0 0 [(0, .ref (G.2.1 + a0)), (1, .int a1), (2, .ref (G.2.1 + a2))] [] M (zbH (F_X11_round a0 a1 M) (fun r1 M1 => zck (zin 0 (zal a2)) (zst (zupB M1 a2 (zix 0) r1.toInt64) (fun M2 => zI 0 M2))) (fun E Mh => zit (E = "java/util/NoSuchElementException") (zI 1 Mh) (none)))
  refine ev_aload_n dd_L_round_0 2 rfl ?_
  refine ev_lv (lv' := [(0, .ref (G.2.1 + a0)), (1, .int a1)]) [0, 1] rfl ?_
  refine ev_iconst (v := 0) dd_L_round_1 (by decide) ?_
  refine ev_aload_n dd_L_round_2 0 rfl ?_
  refine ev_lv (lv' := [(1, .int a1)]) [1] rfl ?_
  refine ev_iload_n dd_L_round_3 0 rfl ?_
  refine ev_lv (lv' := []) [] rfl ?_
  refine ev_callVH (As := [.int a1]) cl_RL_50 (ct_X11_round l hl G a0 ha0 a1 M) dd_L_round_4 ha0 (by decide) (Nat.le_of_ble_eq_true rfl) (Nat.le_of_ble_eq_true rfl) rfl rfl (fun r1 M1 => ?_) (fun E Mh hne => ?_)
  · refine ev_i2l dd_L_round_7 ?_
    refine ev_last dd_L_round_8 ha2 rfl ?_
    refine ev_st (fun M2 => ?_)
    refine ev_goto 15 dd_L_round_9 (by decide) ?_
    refine ev_iconst (v := 0) dd_L_round_15 (by decide) ?_
    exact ev_iret dd_L_round_16 rfl (Nat.le_of_ble_eq_true rfl) rfl
  · by_cases hE0 : E = "java/util/NoSuchElementException"
    · subst hE0
      refine ⟨[], ⟨0, 9, 12, 18⟩, [], rfl, (fun z hz => absurd hz List.not_mem_nil), by decide, by decide, lc_RL_18, by decide +kernel, fun q1 => ?_⟩
      refine ev_it (fun _ => ?_) (fun z => absurd rfl z)
      refine ev_astore_n (i := 3) (lv' := []) [] dd_L_round_12 rfl (by decide) rfl ?_
      refine ev_iconst (v := 1) dd_L_round_13 (by decide) ?_
      exact ev_iret dd_L_round_14 rfl (Nat.le_of_ble_eq_true rfl) rfl
    exact absurd (by unfold zit; rw [if_neg hE0]) hne
theorem dd_L_sales_0 : decode Y_L_sales.2.1 0 = .ok (.aload_n 3, 1) := by decide +kernel
theorem dd_L_sales_1 : decode Y_L_sales.2.1 1 = .ok (.iconst 0, 1) := by decide +kernel
theorem dd_L_sales_2 : decode Y_L_sales.2.1 2 = .ok (.aload_n 0, 1) := by decide +kernel
theorem dd_L_sales_3 : decode Y_L_sales.2.1 3 = .ok (.iload_n 1, 1) := by decide +kernel
theorem dd_L_sales_4 : decode Y_L_sales.2.1 4 = .ok (.iload_n 2, 1) := by decide +kernel
theorem dd_L_sales_5 : decode Y_L_sales.2.1 5 = .ok (.invokevirtual 81, 3) := by decide +kernel
theorem dd_L_sales_8 : decode Y_L_sales.2.1 8 = .ok (.i2l, 1) := by decide +kernel
theorem dd_L_sales_9 : decode Y_L_sales.2.1 9 = .ok (.lastore, 1) := by decide +kernel
theorem dd_L_sales_10 : decode Y_L_sales.2.1 10 = .ok (.goto 11, 3) := by decide +kernel
theorem dd_L_sales_13 : decode Y_L_sales.2.1 13 = .ok (.astore 4, 2) := by decide +kernel
theorem dd_L_sales_15 : decode Y_L_sales.2.1 15 = .ok (.iconst 1, 1) := by decide +kernel
theorem dd_L_sales_16 : decode Y_L_sales.2.1 16 = .ok (.ireturn, 1) := by decide +kernel
theorem dd_L_sales_17 : decode Y_L_sales.2.1 17 = .ok (.astore 4, 2) := by decide +kernel
theorem dd_L_sales_19 : decode Y_L_sales.2.1 19 = .ok (.iconst 2, 1) := by decide +kernel
theorem dd_L_sales_20 : decode Y_L_sales.2.1 20 = .ok (.ireturn, 1) := by decide +kernel
theorem dd_L_sales_21 : decode Y_L_sales.2.1 21 = .ok (.iconst 0, 1) := by decide +kernel
theorem dd_L_sales_22 : decode Y_L_sales.2.1 22 = .ok (.ireturn, 1) := by decide +kernel
def F_L_sales (a0 : Nat) (a1 : Int32) (a2 : Int32) (a3 : Nat) (M : zM) : zO := zbH (F_X11_sales a0 a1 a2 M) (fun r1 M1 => zck (zin 0 (zal a3)) (zst (zupB M1 a3 (zix 0) r1.toInt64) (fun M2 => zI 0 M2))) (fun E Mh => zit (E = "java/util/NoSuchElementException") (zI 1 Mh) (zit (E = "java/lang/IllegalArgumentException") (zI 2 Mh) (none)))
set_option maxHeartbeats 2000000 in
set_option maxRecDepth 50000 in
theorem ct_L_sales (l : Launch) (hl : l.stackTraces = false) (G : zG) (a0 : Nat) (ha0 : zsh a0 = 11) (a1 : Int32) (a2 : Int32) (a3 : Nat) (ha3 : zsh a3 = 23) (M : zM) : zMh l G Y_L_sales 111 [.ref (G.2.1 + a0), .int a1, .int a2, .ref (G.2.1 + a3)] M (F_L_sales a0 a1 a2 a3 M) := by
  refine zMh_of (by decide +kernel) (Nat.le_of_ble_eq_true rfl) ?_
  show zEv l G Y_L_sales 111 0 0 [(0, .ref (G.2.1 + a0)), (1, .int a1), (2, .int a2), (3, .ref (G.2.1 + a3))] [] M (zbH (F_X11_sales a0 a1 a2 M) (fun r1 M1 => zck (zin 0 (zal a3)) (zst (zupB M1 a3 (zix 0) r1.toInt64) (fun M2 => zI 0 M2))) (fun E Mh => zit (E = "java/util/NoSuchElementException") (zI 1 Mh) (zit (E = "java/lang/IllegalArgumentException") (zI 2 Mh) (none))))
  refine ev_aload_n dd_L_sales_0 3 rfl ?_
  refine ev_lv (lv' := [(0, .ref (G.2.1 + a0)), (1, .int a1), (2, .int a2)]) [0, 1, 2] rfl ?_
  refine ev_iconst (v := 0) dd_L_sales_1 (by decide) ?_
  refine ev_aload_n dd_L_sales_2 0 rfl ?_
  refine ev_lv (lv' := [(1, .int a1), (2, .int a2)]) [1, 2] rfl ?_
  refine ev_iload_n dd_L_sales_3 0 rfl ?_
  refine ev_lv (lv' := [(2, .int a2)]) [1] rfl ?_
  refine ev_iload_n dd_L_sales_4 0 rfl ?_
  refine ev_lv (lv' := []) [] rfl ?_
  refine ev_callVH (As := [.int a1, .int a2]) cl_RL_81 (ct_X11_sales l hl G a0 ha0 a1 a2 M) dd_L_sales_5 ha0 (by decide) (Nat.le_of_ble_eq_true rfl) (Nat.le_of_ble_eq_true rfl) rfl rfl (fun r1 M1 => ?_) (fun E Mh hne => ?_)
  · refine ev_i2l dd_L_sales_8 ?_
    refine ev_last dd_L_sales_9 ha3 rfl ?_
    refine ev_st (fun M2 => ?_)
    refine ev_goto 21 dd_L_sales_10 (by decide) ?_
    refine ev_iconst (v := 0) dd_L_sales_21 (by decide) ?_
    exact ev_iret dd_L_sales_22 rfl (Nat.le_of_ble_eq_true rfl) rfl
  · by_cases hE0 : E = "java/util/NoSuchElementException"
    · subst hE0
      refine ⟨[], ⟨0, 10, 13, 18⟩, [⟨0, 10, 17, 13⟩], rfl, (fun z hz => absurd hz List.not_mem_nil), by decide, by decide, lc_RL_18, by decide +kernel, fun q1 => ?_⟩
      refine ev_it (fun _ => ?_) (fun z => absurd rfl z)
      refine ev_astore (i := 4) (lv' := []) [] dd_L_sales_13 (by decide) rfl ?_
      refine ev_iconst (v := 1) dd_L_sales_15 (by decide) ?_
      exact ev_iret dd_L_sales_16 rfl (Nat.le_of_ble_eq_true rfl) rfl
    by_cases hE1 : E = "java/lang/IllegalArgumentException"
    · subst hE1
      refine ⟨[⟨0, 10, 13, 18⟩], ⟨0, 10, 17, 13⟩, [], rfl, (fun z hz => (List.mem_cons.mp hz).elim (fun e => by rw [e]; exact ⟨by decide, by decide, _, lc_RL_18, by decide +kernel⟩) (fun e => absurd e List.not_mem_nil)), by decide, by decide, lc_RL_13, by decide +kernel, fun q2 => ?_⟩
      refine ev_it (fun z => absurd z (by decide)) (fun _ => ?_)
      refine ev_it (fun _ => ?_) (fun z => absurd rfl z)
      refine ev_astore (i := 4) (lv' := []) [] dd_L_sales_17 (by decide) rfl ?_
      refine ev_iconst (v := 2) dd_L_sales_19 (by decide) ?_
      exact ev_iret dd_L_sales_20 rfl (Nat.le_of_ble_eq_true rfl) rfl
    exact absurd (by unfold zit; rw [if_neg hE0, if_neg hE1]) hne
theorem dd_L_sea_0 : decode Y_L_sea.2.1 0 = .ok (.aload_n 2, 1) := by decide +kernel
theorem dd_L_sea_1 : decode Y_L_sea.2.1 1 = .ok (.iconst 0, 1) := by decide +kernel
theorem dd_L_sea_2 : decode Y_L_sea.2.1 2 = .ok (.aload_n 0, 1) := by decide +kernel
theorem dd_L_sea_3 : decode Y_L_sea.2.1 3 = .ok (.iload_n 1, 1) := by decide +kernel
theorem dd_L_sea_4 : decode Y_L_sea.2.1 4 = .ok (.invokevirtual 7, 3) := by decide +kernel
theorem dd_L_sea_7 : decode Y_L_sea.2.1 7 = .ok (.i2l, 1) := by decide +kernel
theorem dd_L_sea_8 : decode Y_L_sea.2.1 8 = .ok (.lastore, 1) := by decide +kernel
theorem dd_L_sea_9 : decode Y_L_sea.2.1 9 = .ok (.goto 6, 3) := by decide +kernel
theorem dd_L_sea_12 : decode Y_L_sea.2.1 12 = .ok (.astore_n 3, 1) := by decide +kernel
theorem dd_L_sea_13 : decode Y_L_sea.2.1 13 = .ok (.iconst 1, 1) := by decide +kernel
theorem dd_L_sea_14 : decode Y_L_sea.2.1 14 = .ok (.ireturn, 1) := by decide +kernel
theorem dd_L_sea_15 : decode Y_L_sea.2.1 15 = .ok (.iconst 0, 1) := by decide +kernel
theorem dd_L_sea_16 : decode Y_L_sea.2.1 16 = .ok (.ireturn, 1) := by decide +kernel
def F_L_sea (a0 : Nat) (a1 : Int32) (a2 : Nat) (M : zM) : zO := zbH (F_X11_sea a0 a1 M) (fun r1 M1 => zck (zin 0 (zal a2)) (zst (zupB M1 a2 (zix 0) r1.toInt64) (fun M2 => zI 0 M2))) (fun E Mh => zit (E = "java/lang/IllegalArgumentException") (zI 1 Mh) (none))
set_option maxHeartbeats 2000000 in
set_option maxRecDepth 50000 in
theorem ct_L_sea (l : Launch) (hl : l.stackTraces = false) (G : zG) (a0 : Nat) (ha0 : zsh a0 = 11) (a1 : Int32) (a2 : Nat) (ha2 : zsh a2 = 23) (M : zM) : zMh l G Y_L_sea 185 [.ref (G.2.1 + a0), .int a1, .ref (G.2.1 + a2)] M (F_L_sea a0 a1 a2 M) := by
  refine zMh_of (by decide +kernel) (Nat.le_of_ble_eq_true rfl) ?_
  show zEv l G Y_L_sea 185 0 0 [(0, .ref (G.2.1 + a0)), (1, .int a1), (2, .ref (G.2.1 + a2))] [] M (zbH (F_X11_sea a0 a1 M) (fun r1 M1 => zck (zin 0 (zal a2)) (zst (zupB M1 a2 (zix 0) r1.toInt64) (fun M2 => zI 0 M2))) (fun E Mh => zit (E = "java/lang/IllegalArgumentException") (zI 1 Mh) (none)))
  refine ev_aload_n dd_L_sea_0 2 rfl ?_
  refine ev_lv (lv' := [(0, .ref (G.2.1 + a0)), (1, .int a1)]) [0, 1] rfl ?_
  refine ev_iconst (v := 0) dd_L_sea_1 (by decide) ?_
  refine ev_aload_n dd_L_sea_2 0 rfl ?_
  refine ev_lv (lv' := [(1, .int a1)]) [1] rfl ?_
  refine ev_iload_n dd_L_sea_3 0 rfl ?_
  refine ev_lv (lv' := []) [] rfl ?_
  refine ev_callVH (As := [.int a1]) cl_RL_7 (ct_X11_sea l hl G a0 ha0 a1 M) dd_L_sea_4 ha0 (by decide) (Nat.le_of_ble_eq_true rfl) (Nat.le_of_ble_eq_true rfl) rfl rfl (fun r1 M1 => ?_) (fun E Mh hne => ?_)
  · refine ev_i2l dd_L_sea_7 ?_
    refine ev_last dd_L_sea_8 ha2 rfl ?_
    refine ev_st (fun M2 => ?_)
    refine ev_goto 15 dd_L_sea_9 (by decide) ?_
    refine ev_iconst (v := 0) dd_L_sea_15 (by decide) ?_
    exact ev_iret dd_L_sea_16 rfl (Nat.le_of_ble_eq_true rfl) rfl
  · by_cases hE0 : E = "java/lang/IllegalArgumentException"
    · subst hE0
      refine ⟨[], ⟨0, 9, 12, 13⟩, [], rfl, (fun z hz => absurd hz List.not_mem_nil), by decide, by decide, lc_RL_13, by decide +kernel, fun q1 => ?_⟩
      refine ev_it (fun _ => ?_) (fun z => absurd rfl z)
      refine ev_astore_n (i := 3) (lv' := []) [] dd_L_sea_12 rfl (by decide) rfl ?_
      refine ev_iconst (v := 1) dd_L_sea_13 (by decide) ?_
      exact ev_iret dd_L_sea_14 rfl (Nat.le_of_ble_eq_true rfl) rfl
    exact absurd (by unfold zit; rw [if_neg hE0]) hne
theorem dd_L_see_0 : decode Y_L_see.2.1 0 = .ok (.aload_n 3, 1) := by decide +kernel
theorem dd_L_see_1 : decode Y_L_see.2.1 1 = .ok (.iconst 0, 1) := by decide +kernel
theorem dd_L_see_2 : decode Y_L_see.2.1 2 = .ok (.aload_n 0, 1) := by decide +kernel
theorem dd_L_see_3 : decode Y_L_see.2.1 3 = .ok (.iload_n 1, 1) := by decide +kernel
theorem dd_L_see_4 : decode Y_L_see.2.1 4 = .ok (.iload_n 2, 1) := by decide +kernel
theorem dd_L_see_5 : decode Y_L_see.2.1 5 = .ok (.invokevirtual 78, 3) := by decide +kernel
theorem dd_L_see_8 : decode Y_L_see.2.1 8 = .ok (.i2l, 1) := by decide +kernel
theorem dd_L_see_9 : decode Y_L_see.2.1 9 = .ok (.lastore, 1) := by decide +kernel
theorem dd_L_see_10 : decode Y_L_see.2.1 10 = .ok (.goto 7, 3) := by decide +kernel
theorem dd_L_see_13 : decode Y_L_see.2.1 13 = .ok (.astore 4, 2) := by decide +kernel
theorem dd_L_see_15 : decode Y_L_see.2.1 15 = .ok (.iconst 1, 1) := by decide +kernel
theorem dd_L_see_16 : decode Y_L_see.2.1 16 = .ok (.ireturn, 1) := by decide +kernel
theorem dd_L_see_17 : decode Y_L_see.2.1 17 = .ok (.iconst 0, 1) := by decide +kernel
theorem dd_L_see_18 : decode Y_L_see.2.1 18 = .ok (.ireturn, 1) := by decide +kernel
def F_L_see (a0 : Nat) (a1 : Int32) (a2 : Int32) (a3 : Nat) (M : zM) : zO := zbH (F_X11_see a0 a1 a2 M) (fun r1 M1 => zck (zin 0 (zal a3)) (zst (zupB M1 a3 (zix 0) r1.toInt64) (fun M2 => zI 0 M2))) (fun E Mh => zit (E = "java/util/NoSuchElementException") (zI 1 Mh) (none))
set_option maxHeartbeats 2000000 in
set_option maxRecDepth 50000 in
theorem ct_L_see (l : Launch) (hl : l.stackTraces = false) (G : zG) (a0 : Nat) (ha0 : zsh a0 = 11) (a1 : Int32) (a2 : Int32) (a3 : Nat) (ha3 : zsh a3 = 23) (M : zM) : zMh l G Y_L_see 3 [.ref (G.2.1 + a0), .int a1, .int a2, .ref (G.2.1 + a3)] M (F_L_see a0 a1 a2 a3 M) := by
  refine zMh_of (by decide +kernel) (Nat.le_of_ble_eq_true rfl) ?_
  show zEv l G Y_L_see 3 0 0 [(0, .ref (G.2.1 + a0)), (1, .int a1), (2, .int a2), (3, .ref (G.2.1 + a3))] [] M (zbH (F_X11_see a0 a1 a2 M) (fun r1 M1 => zck (zin 0 (zal a3)) (zst (zupB M1 a3 (zix 0) r1.toInt64) (fun M2 => zI 0 M2))) (fun E Mh => zit (E = "java/util/NoSuchElementException") (zI 1 Mh) (none)))
  refine ev_aload_n dd_L_see_0 3 rfl ?_
  refine ev_lv (lv' := [(0, .ref (G.2.1 + a0)), (1, .int a1), (2, .int a2)]) [0, 1, 2] rfl ?_
  refine ev_iconst (v := 0) dd_L_see_1 (by decide) ?_
  refine ev_aload_n dd_L_see_2 0 rfl ?_
  refine ev_lv (lv' := [(1, .int a1), (2, .int a2)]) [1, 2] rfl ?_
  refine ev_iload_n dd_L_see_3 0 rfl ?_
  refine ev_lv (lv' := [(2, .int a2)]) [1] rfl ?_
  refine ev_iload_n dd_L_see_4 0 rfl ?_
  refine ev_lv (lv' := []) [] rfl ?_
  refine ev_callVH (As := [.int a1, .int a2]) cl_RL_78 (ct_X11_see l hl G a0 ha0 a1 a2 M) dd_L_see_5 ha0 (by decide) (Nat.le_of_ble_eq_true rfl) (Nat.le_of_ble_eq_true rfl) rfl rfl (fun r1 M1 => ?_) (fun E Mh hne => ?_)
  · refine ev_i2l dd_L_see_8 ?_
    refine ev_last dd_L_see_9 ha3 rfl ?_
    refine ev_st (fun M2 => ?_)
    refine ev_goto 17 dd_L_see_10 (by decide) ?_
    refine ev_iconst (v := 0) dd_L_see_17 (by decide) ?_
    exact ev_iret dd_L_see_18 rfl (Nat.le_of_ble_eq_true rfl) rfl
  · by_cases hE0 : E = "java/util/NoSuchElementException"
    · subst hE0
      refine ⟨[], ⟨0, 10, 13, 18⟩, [], rfl, (fun z hz => absurd hz List.not_mem_nil), by decide, by decide, lc_RL_18, by decide +kernel, fun q1 => ?_⟩
      refine ev_it (fun _ => ?_) (fun z => absurd rfl z)
      refine ev_astore (i := 4) (lv' := []) [] dd_L_see_13 (by decide) rfl ?_
      refine ev_iconst (v := 1) dd_L_see_15 (by decide) ?_
      exact ev_iret dd_L_see_16 rfl (Nat.le_of_ble_eq_true rfl) rfl
    exact absurd (by unfold zit; rw [if_neg hE0]) hne
theorem dd_L_ship_0 : decode Y_L_ship.2.1 0 = .ok (.aload 4, 2) := by decide +kernel
theorem dd_L_ship_2 : decode Y_L_ship.2.1 2 = .ok (.iconst 0, 1) := by decide +kernel
theorem dd_L_ship_3 : decode Y_L_ship.2.1 3 = .ok (.aload_n 0, 1) := by decide +kernel
theorem dd_L_ship_4 : decode Y_L_ship.2.1 4 = .ok (.iload_n 1, 1) := by decide +kernel
theorem dd_L_ship_5 : decode Y_L_ship.2.1 5 = .ok (.iload_n 2, 1) := by decide +kernel
theorem dd_L_ship_6 : decode Y_L_ship.2.1 6 = .ok (.iload_n 3, 1) := by decide +kernel
theorem dd_L_ship_7 : decode Y_L_ship.2.1 7 = .ok (.invokevirtual 56, 3) := by decide +kernel
theorem dd_L_ship_10 : decode Y_L_ship.2.1 10 = .ok (.i2l, 1) := by decide +kernel
theorem dd_L_ship_11 : decode Y_L_ship.2.1 11 = .ok (.lastore, 1) := by decide +kernel
theorem dd_L_ship_12 : decode Y_L_ship.2.1 12 = .ok (.goto 11, 3) := by decide +kernel
theorem dd_L_ship_15 : decode Y_L_ship.2.1 15 = .ok (.astore 5, 2) := by decide +kernel
theorem dd_L_ship_17 : decode Y_L_ship.2.1 17 = .ok (.iconst 1, 1) := by decide +kernel
theorem dd_L_ship_18 : decode Y_L_ship.2.1 18 = .ok (.ireturn, 1) := by decide +kernel
theorem dd_L_ship_19 : decode Y_L_ship.2.1 19 = .ok (.astore 5, 2) := by decide +kernel
theorem dd_L_ship_21 : decode Y_L_ship.2.1 21 = .ok (.iconst 2, 1) := by decide +kernel
theorem dd_L_ship_22 : decode Y_L_ship.2.1 22 = .ok (.ireturn, 1) := by decide +kernel
theorem dd_L_ship_23 : decode Y_L_ship.2.1 23 = .ok (.iconst 0, 1) := by decide +kernel
theorem dd_L_ship_24 : decode Y_L_ship.2.1 24 = .ok (.ireturn, 1) := by decide +kernel
def F_L_ship (a0 : Nat) (a1 : Int32) (a2 : Int32) (a3 : Int32) (a4 : Nat) (M : zM) : zO := zbH (F_X11_ship a0 a1 a2 a3 M) (fun r1 M1 => zck (zin 0 (zal a4)) (zst (zupB M1 a4 (zix 0) r1.toInt64) (fun M2 => zI 0 M2))) (fun E Mh => zit (E = "java/util/NoSuchElementException") (zI 1 Mh) (zit (E = "java/lang/IllegalArgumentException") (zI 2 Mh) (none)))
set_option maxHeartbeats 2000000 in
set_option maxRecDepth 50000 in
theorem ct_L_ship (l : Launch) (hl : l.stackTraces = false) (G : zG) (a0 : Nat) (ha0 : zsh a0 = 11) (a1 : Int32) (a2 : Int32) (a3 : Int32) (a4 : Nat) (ha4 : zsh a4 = 23) (M : zM) : zMh l G Y_L_ship 15 [.ref (G.2.1 + a0), .int a1, .int a2, .int a3, .ref (G.2.1 + a4)] M (F_L_ship a0 a1 a2 a3 a4 M) := by
  refine zMh_of (by decide +kernel) (Nat.le_of_ble_eq_true rfl) ?_
  show zEv l G Y_L_ship 15 0 0 [(0, .ref (G.2.1 + a0)), (1, .int a1), (2, .int a2), (3, .int a3), (4, .ref (G.2.1 + a4))] [] M (zbH (F_X11_ship a0 a1 a2 a3 M) (fun r1 M1 => zck (zin 0 (zal a4)) (zst (zupB M1 a4 (zix 0) r1.toInt64) (fun M2 => zI 0 M2))) (fun E Mh => zit (E = "java/util/NoSuchElementException") (zI 1 Mh) (zit (E = "java/lang/IllegalArgumentException") (zI 2 Mh) (none))))
  refine ev_aload dd_L_ship_0 4 rfl ?_
  refine ev_lv (lv' := [(0, .ref (G.2.1 + a0)), (1, .int a1), (2, .int a2), (3, .int a3)]) [0, 1, 2, 3] rfl ?_
  refine ev_iconst (v := 0) dd_L_ship_2 (by decide) ?_
  refine ev_aload_n dd_L_ship_3 0 rfl ?_
  refine ev_lv (lv' := [(1, .int a1), (2, .int a2), (3, .int a3)]) [1, 2, 3] rfl ?_
  refine ev_iload_n dd_L_ship_4 0 rfl ?_
  refine ev_lv (lv' := [(2, .int a2), (3, .int a3)]) [1, 2] rfl ?_
  refine ev_iload_n dd_L_ship_5 0 rfl ?_
  refine ev_lv (lv' := [(3, .int a3)]) [1] rfl ?_
  refine ev_iload_n dd_L_ship_6 0 rfl ?_
  refine ev_lv (lv' := []) [] rfl ?_
  refine ev_callVH (As := [.int a1, .int a2, .int a3]) cl_RL_56 (ct_X11_ship l hl G a0 ha0 a1 a2 a3 M) dd_L_ship_7 ha0 (by decide) (Nat.le_of_ble_eq_true rfl) (Nat.le_of_ble_eq_true rfl) rfl rfl (fun r1 M1 => ?_) (fun E Mh hne => ?_)
  · refine ev_i2l dd_L_ship_10 ?_
    refine ev_last dd_L_ship_11 ha4 rfl ?_
    refine ev_st (fun M2 => ?_)
    refine ev_goto 23 dd_L_ship_12 (by decide) ?_
    refine ev_iconst (v := 0) dd_L_ship_23 (by decide) ?_
    exact ev_iret dd_L_ship_24 rfl (Nat.le_of_ble_eq_true rfl) rfl
  · by_cases hE0 : E = "java/util/NoSuchElementException"
    · subst hE0
      refine ⟨[], ⟨0, 12, 15, 18⟩, [⟨0, 12, 19, 13⟩], rfl, (fun z hz => absurd hz List.not_mem_nil), by decide, by decide, lc_RL_18, by decide +kernel, fun q1 => ?_⟩
      refine ev_it (fun _ => ?_) (fun z => absurd rfl z)
      refine ev_astore (i := 5) (lv' := []) [] dd_L_ship_15 (by decide) rfl ?_
      refine ev_iconst (v := 1) dd_L_ship_17 (by decide) ?_
      exact ev_iret dd_L_ship_18 rfl (Nat.le_of_ble_eq_true rfl) rfl
    by_cases hE1 : E = "java/lang/IllegalArgumentException"
    · subst hE1
      refine ⟨[⟨0, 12, 15, 18⟩], ⟨0, 12, 19, 13⟩, [], rfl, (fun z hz => (List.mem_cons.mp hz).elim (fun e => by rw [e]; exact ⟨by decide, by decide, _, lc_RL_18, by decide +kernel⟩) (fun e => absurd e List.not_mem_nil)), by decide, by decide, lc_RL_13, by decide +kernel, fun q2 => ?_⟩
      refine ev_it (fun z => absurd z (by decide)) (fun _ => ?_)
      refine ev_it (fun _ => ?_) (fun z => absurd rfl z)
      refine ev_astore (i := 5) (lv' := []) [] dd_L_ship_19 (by decide) rfl ?_
      refine ev_iconst (v := 2) dd_L_ship_21 (by decide) ?_
      exact ev_iret dd_L_ship_22 rfl (Nat.le_of_ble_eq_true rfl) rfl
    exact absurd (by unfold zit; rw [if_neg hE0, if_neg hE1]) hne
theorem dd_L_shortest_0 : decode Y_L_shortest.2.1 0 = .ok (.aload_n 3, 1) := by decide +kernel
theorem dd_L_shortest_1 : decode Y_L_shortest.2.1 1 = .ok (.iconst 0, 1) := by decide +kernel
theorem dd_L_shortest_2 : decode Y_L_shortest.2.1 2 = .ok (.aload_n 0, 1) := by decide +kernel
theorem dd_L_shortest_3 : decode Y_L_shortest.2.1 3 = .ok (.iload_n 1, 1) := by decide +kernel
theorem dd_L_shortest_4 : decode Y_L_shortest.2.1 4 = .ok (.iload_n 2, 1) := by decide +kernel
theorem dd_L_shortest_5 : decode Y_L_shortest.2.1 5 = .ok (.invokevirtual 66, 3) := by decide +kernel
theorem dd_L_shortest_8 : decode Y_L_shortest.2.1 8 = .ok (.i2l, 1) := by decide +kernel
theorem dd_L_shortest_9 : decode Y_L_shortest.2.1 9 = .ok (.lastore, 1) := by decide +kernel
theorem dd_L_shortest_10 : decode Y_L_shortest.2.1 10 = .ok (.goto 11, 3) := by decide +kernel
theorem dd_L_shortest_13 : decode Y_L_shortest.2.1 13 = .ok (.astore 4, 2) := by decide +kernel
theorem dd_L_shortest_15 : decode Y_L_shortest.2.1 15 = .ok (.iconst 1, 1) := by decide +kernel
theorem dd_L_shortest_16 : decode Y_L_shortest.2.1 16 = .ok (.ireturn, 1) := by decide +kernel
theorem dd_L_shortest_17 : decode Y_L_shortest.2.1 17 = .ok (.astore 4, 2) := by decide +kernel
theorem dd_L_shortest_19 : decode Y_L_shortest.2.1 19 = .ok (.iconst 2, 1) := by decide +kernel
theorem dd_L_shortest_20 : decode Y_L_shortest.2.1 20 = .ok (.ireturn, 1) := by decide +kernel
theorem dd_L_shortest_21 : decode Y_L_shortest.2.1 21 = .ok (.iconst 0, 1) := by decide +kernel
theorem dd_L_shortest_22 : decode Y_L_shortest.2.1 22 = .ok (.ireturn, 1) := by decide +kernel
def F_L_shortest (a0 : Nat) (a1 : Int32) (a2 : Int32) (a3 : Nat) (M : zM) : zO := zbH (F_X11_shortest a0 a1 a2 M) (fun r1 M1 => zck (zin 0 (zal a3)) (zst (zupB M1 a3 (zix 0) r1.toInt64) (fun M2 => zI 0 M2))) (fun E Mh => zit (E = "java/util/NoSuchElementException") (zI 1 Mh) (zit (E = "java/lang/IllegalArgumentException") (zI 2 Mh) (none)))
set_option maxHeartbeats 2000000 in
set_option maxRecDepth 50000 in
theorem ct_L_shortest (l : Launch) (hl : l.stackTraces = false) (G : zG) (a0 : Nat) (ha0 : zsh a0 = 11) (a1 : Int32) (a2 : Int32) (a3 : Nat) (ha3 : zsh a3 = 23) (M : zM) : zMh l G Y_L_shortest 84 [.ref (G.2.1 + a0), .int a1, .int a2, .ref (G.2.1 + a3)] M (F_L_shortest a0 a1 a2 a3 M) := by
  refine zMh_of (by decide +kernel) (Nat.le_of_ble_eq_true rfl) ?_
  show zEv l G Y_L_shortest 84 0 0 [(0, .ref (G.2.1 + a0)), (1, .int a1), (2, .int a2), (3, .ref (G.2.1 + a3))] [] M (zbH (F_X11_shortest a0 a1 a2 M) (fun r1 M1 => zck (zin 0 (zal a3)) (zst (zupB M1 a3 (zix 0) r1.toInt64) (fun M2 => zI 0 M2))) (fun E Mh => zit (E = "java/util/NoSuchElementException") (zI 1 Mh) (zit (E = "java/lang/IllegalArgumentException") (zI 2 Mh) (none))))
  refine ev_aload_n dd_L_shortest_0 3 rfl ?_
  refine ev_lv (lv' := [(0, .ref (G.2.1 + a0)), (1, .int a1), (2, .int a2)]) [0, 1, 2] rfl ?_
  refine ev_iconst (v := 0) dd_L_shortest_1 (by decide) ?_
  refine ev_aload_n dd_L_shortest_2 0 rfl ?_
  refine ev_lv (lv' := [(1, .int a1), (2, .int a2)]) [1, 2] rfl ?_
  refine ev_iload_n dd_L_shortest_3 0 rfl ?_
  refine ev_lv (lv' := [(2, .int a2)]) [1] rfl ?_
  refine ev_iload_n dd_L_shortest_4 0 rfl ?_
  refine ev_lv (lv' := []) [] rfl ?_
  refine ev_callVH (As := [.int a1, .int a2]) cl_RL_66 (ct_X11_shortest l hl G a0 ha0 a1 a2 M) dd_L_shortest_5 ha0 (by decide) (Nat.le_of_ble_eq_true rfl) (Nat.le_of_ble_eq_true rfl) rfl rfl (fun r1 M1 => ?_) (fun E Mh hne => ?_)
  · refine ev_i2l dd_L_shortest_8 ?_
    refine ev_last dd_L_shortest_9 ha3 rfl ?_
    refine ev_st (fun M2 => ?_)
    refine ev_goto 21 dd_L_shortest_10 (by decide) ?_
    refine ev_iconst (v := 0) dd_L_shortest_21 (by decide) ?_
    exact ev_iret dd_L_shortest_22 rfl (Nat.le_of_ble_eq_true rfl) rfl
  · by_cases hE0 : E = "java/util/NoSuchElementException"
    · subst hE0
      refine ⟨[], ⟨0, 10, 13, 18⟩, [⟨0, 10, 17, 13⟩], rfl, (fun z hz => absurd hz List.not_mem_nil), by decide, by decide, lc_RL_18, by decide +kernel, fun q1 => ?_⟩
      refine ev_it (fun _ => ?_) (fun z => absurd rfl z)
      refine ev_astore (i := 4) (lv' := []) [] dd_L_shortest_13 (by decide) rfl ?_
      refine ev_iconst (v := 1) dd_L_shortest_15 (by decide) ?_
      exact ev_iret dd_L_shortest_16 rfl (Nat.le_of_ble_eq_true rfl) rfl
    by_cases hE1 : E = "java/lang/IllegalArgumentException"
    · subst hE1
      refine ⟨[⟨0, 10, 13, 18⟩], ⟨0, 10, 17, 13⟩, [], rfl, (fun z hz => (List.mem_cons.mp hz).elim (fun e => by rw [e]; exact ⟨by decide, by decide, _, lc_RL_18, by decide +kernel⟩) (fun e => absurd e List.not_mem_nil)), by decide, by decide, lc_RL_13, by decide +kernel, fun q2 => ?_⟩
      refine ev_it (fun z => absurd z (by decide)) (fun _ => ?_)
      refine ev_it (fun _ => ?_) (fun z => absurd rfl z)
      refine ev_astore (i := 4) (lv' := []) [] dd_L_shortest_17 (by decide) rfl ?_
      refine ev_iconst (v := 2) dd_L_shortest_19 (by decide) ?_
      exact ev_iret dd_L_shortest_20 rfl (Nat.le_of_ble_eq_true rfl) rfl
    exact absurd (by unfold zit; rw [if_neg hE0, if_neg hE1]) hne
theorem dd_L_swap_0 : decode Y_L_swap.2.1 0 = .ok (.aload_n 3, 1) := by decide +kernel
theorem dd_L_swap_1 : decode Y_L_swap.2.1 1 = .ok (.iconst 0, 1) := by decide +kernel
theorem dd_L_swap_2 : decode Y_L_swap.2.1 2 = .ok (.aload_n 0, 1) := by decide +kernel
theorem dd_L_swap_3 : decode Y_L_swap.2.1 3 = .ok (.iload_n 1, 1) := by decide +kernel
theorem dd_L_swap_4 : decode Y_L_swap.2.1 4 = .ok (.iload_n 2, 1) := by decide +kernel
theorem dd_L_swap_5 : decode Y_L_swap.2.1 5 = .ok (.invokevirtual 37, 3) := by decide +kernel
theorem dd_L_swap_8 : decode Y_L_swap.2.1 8 = .ok (.i2l, 1) := by decide +kernel
theorem dd_L_swap_9 : decode Y_L_swap.2.1 9 = .ok (.lastore, 1) := by decide +kernel
theorem dd_L_swap_10 : decode Y_L_swap.2.1 10 = .ok (.goto 7, 3) := by decide +kernel
theorem dd_L_swap_13 : decode Y_L_swap.2.1 13 = .ok (.astore 4, 2) := by decide +kernel
theorem dd_L_swap_15 : decode Y_L_swap.2.1 15 = .ok (.iconst 1, 1) := by decide +kernel
theorem dd_L_swap_16 : decode Y_L_swap.2.1 16 = .ok (.ireturn, 1) := by decide +kernel
theorem dd_L_swap_17 : decode Y_L_swap.2.1 17 = .ok (.iconst 0, 1) := by decide +kernel
theorem dd_L_swap_18 : decode Y_L_swap.2.1 18 = .ok (.ireturn, 1) := by decide +kernel
def F_L_swap (a0 : Nat) (a1 : Int32) (a2 : Int32) (a3 : Nat) (M : zM) : zO := zbH (F_X11_swap a0 a1 a2 M) (fun r1 M1 => zck (zin 0 (zal a3)) (zst (zupB M1 a3 (zix 0) r1.toInt64) (fun M2 => zI 0 M2))) (fun E Mh => zit (E = "java/util/NoSuchElementException") (zI 1 Mh) (none))
set_option maxHeartbeats 2000000 in
set_option maxRecDepth 50000 in
theorem ct_L_swap (l : Launch) (hl : l.stackTraces = false) (G : zG) (a0 : Nat) (ha0 : zsh a0 = 11) (a1 : Int32) (a2 : Int32) (a3 : Nat) (ha3 : zsh a3 = 23) (M : zM) : zMh l G Y_L_swap 13 [.ref (G.2.1 + a0), .int a1, .int a2, .ref (G.2.1 + a3)] M (F_L_swap a0 a1 a2 a3 M) := by
  refine zMh_of (by decide +kernel) (Nat.le_of_ble_eq_true rfl) ?_
  show zEv l G Y_L_swap 13 0 0 [(0, .ref (G.2.1 + a0)), (1, .int a1), (2, .int a2), (3, .ref (G.2.1 + a3))] [] M (zbH (F_X11_swap a0 a1 a2 M) (fun r1 M1 => zck (zin 0 (zal a3)) (zst (zupB M1 a3 (zix 0) r1.toInt64) (fun M2 => zI 0 M2))) (fun E Mh => zit (E = "java/util/NoSuchElementException") (zI 1 Mh) (none)))
  refine ev_aload_n dd_L_swap_0 3 rfl ?_
  refine ev_lv (lv' := [(0, .ref (G.2.1 + a0)), (1, .int a1), (2, .int a2)]) [0, 1, 2] rfl ?_
  refine ev_iconst (v := 0) dd_L_swap_1 (by decide) ?_
  refine ev_aload_n dd_L_swap_2 0 rfl ?_
  refine ev_lv (lv' := [(1, .int a1), (2, .int a2)]) [1, 2] rfl ?_
  refine ev_iload_n dd_L_swap_3 0 rfl ?_
  refine ev_lv (lv' := [(2, .int a2)]) [1] rfl ?_
  refine ev_iload_n dd_L_swap_4 0 rfl ?_
  refine ev_lv (lv' := []) [] rfl ?_
  refine ev_callVH (As := [.int a1, .int a2]) cl_RL_37 (ct_X11_swap l hl G a0 ha0 a1 a2 M) dd_L_swap_5 ha0 (by decide) (Nat.le_of_ble_eq_true rfl) (Nat.le_of_ble_eq_true rfl) rfl rfl (fun r1 M1 => ?_) (fun E Mh hne => ?_)
  · refine ev_i2l dd_L_swap_8 ?_
    refine ev_last dd_L_swap_9 ha3 rfl ?_
    refine ev_st (fun M2 => ?_)
    refine ev_goto 17 dd_L_swap_10 (by decide) ?_
    refine ev_iconst (v := 0) dd_L_swap_17 (by decide) ?_
    exact ev_iret dd_L_swap_18 rfl (Nat.le_of_ble_eq_true rfl) rfl
  · by_cases hE0 : E = "java/util/NoSuchElementException"
    · subst hE0
      refine ⟨[], ⟨0, 10, 13, 18⟩, [], rfl, (fun z hz => absurd hz List.not_mem_nil), by decide, by decide, lc_RL_18, by decide +kernel, fun q1 => ?_⟩
      refine ev_it (fun _ => ?_) (fun z => absurd rfl z)
      refine ev_astore (i := 4) (lv' := []) [] dd_L_swap_13 (by decide) rfl ?_
      refine ev_iconst (v := 1) dd_L_swap_15 (by decide) ?_
      exact ev_iret dd_L_swap_16 rfl (Nat.le_of_ble_eq_true rfl) rfl
    exact absurd (by unfold zit; rw [if_neg hE0]) hne
theorem dd_L_swaps_0 : decode Y_L_swaps.2.1 0 = .ok (.aload_n 3, 1) := by decide +kernel
theorem dd_L_swaps_1 : decode Y_L_swaps.2.1 1 = .ok (.iconst 0, 1) := by decide +kernel
theorem dd_L_swaps_2 : decode Y_L_swaps.2.1 2 = .ok (.aload_n 0, 1) := by decide +kernel
theorem dd_L_swaps_3 : decode Y_L_swaps.2.1 3 = .ok (.iload_n 1, 1) := by decide +kernel
theorem dd_L_swaps_4 : decode Y_L_swaps.2.1 4 = .ok (.iload_n 2, 1) := by decide +kernel
theorem dd_L_swaps_5 : decode Y_L_swaps.2.1 5 = .ok (.invokevirtual 53, 3) := by decide +kernel
theorem dd_L_swaps_8 : decode Y_L_swaps.2.1 8 = .ok (.i2l, 1) := by decide +kernel
theorem dd_L_swaps_9 : decode Y_L_swaps.2.1 9 = .ok (.lastore, 1) := by decide +kernel
theorem dd_L_swaps_10 : decode Y_L_swaps.2.1 10 = .ok (.goto 11, 3) := by decide +kernel
theorem dd_L_swaps_13 : decode Y_L_swaps.2.1 13 = .ok (.astore 4, 2) := by decide +kernel
theorem dd_L_swaps_15 : decode Y_L_swaps.2.1 15 = .ok (.iconst 1, 1) := by decide +kernel
theorem dd_L_swaps_16 : decode Y_L_swaps.2.1 16 = .ok (.ireturn, 1) := by decide +kernel
theorem dd_L_swaps_17 : decode Y_L_swaps.2.1 17 = .ok (.astore 4, 2) := by decide +kernel
theorem dd_L_swaps_19 : decode Y_L_swaps.2.1 19 = .ok (.iconst 2, 1) := by decide +kernel
theorem dd_L_swaps_20 : decode Y_L_swaps.2.1 20 = .ok (.ireturn, 1) := by decide +kernel
theorem dd_L_swaps_21 : decode Y_L_swaps.2.1 21 = .ok (.iconst 0, 1) := by decide +kernel
theorem dd_L_swaps_22 : decode Y_L_swaps.2.1 22 = .ok (.ireturn, 1) := by decide +kernel
def F_L_swaps (a0 : Nat) (a1 : Int32) (a2 : Int32) (a3 : Nat) (M : zM) : zO := zbH (F_X11_swaps a0 a1 a2 M) (fun r1 M1 => zck (zin 0 (zal a3)) (zst (zupB M1 a3 (zix 0) r1.toInt64) (fun M2 => zI 0 M2))) (fun E Mh => zit (E = "java/util/NoSuchElementException") (zI 1 Mh) (zit (E = "java/lang/IllegalArgumentException") (zI 2 Mh) (none)))
set_option maxHeartbeats 2000000 in
set_option maxRecDepth 50000 in
theorem ct_L_swaps (l : Launch) (hl : l.stackTraces = false) (G : zG) (a0 : Nat) (ha0 : zsh a0 = 11) (a1 : Int32) (a2 : Int32) (a3 : Nat) (ha3 : zsh a3 = 23) (M : zM) : zMh l G Y_L_swaps 15 [.ref (G.2.1 + a0), .int a1, .int a2, .ref (G.2.1 + a3)] M (F_L_swaps a0 a1 a2 a3 M) := by
  refine zMh_of (by decide +kernel) (Nat.le_of_ble_eq_true rfl) ?_
  show zEv l G Y_L_swaps 15 0 0 [(0, .ref (G.2.1 + a0)), (1, .int a1), (2, .int a2), (3, .ref (G.2.1 + a3))] [] M (zbH (F_X11_swaps a0 a1 a2 M) (fun r1 M1 => zck (zin 0 (zal a3)) (zst (zupB M1 a3 (zix 0) r1.toInt64) (fun M2 => zI 0 M2))) (fun E Mh => zit (E = "java/util/NoSuchElementException") (zI 1 Mh) (zit (E = "java/lang/IllegalArgumentException") (zI 2 Mh) (none))))
  refine ev_aload_n dd_L_swaps_0 3 rfl ?_
  refine ev_lv (lv' := [(0, .ref (G.2.1 + a0)), (1, .int a1), (2, .int a2)]) [0, 1, 2] rfl ?_
  refine ev_iconst (v := 0) dd_L_swaps_1 (by decide) ?_
  refine ev_aload_n dd_L_swaps_2 0 rfl ?_
  refine ev_lv (lv' := [(1, .int a1), (2, .int a2)]) [1, 2] rfl ?_
  refine ev_iload_n dd_L_swaps_3 0 rfl ?_
  refine ev_lv (lv' := [(2, .int a2)]) [1] rfl ?_
  refine ev_iload_n dd_L_swaps_4 0 rfl ?_
  refine ev_lv (lv' := []) [] rfl ?_
  refine ev_callVH (As := [.int a1, .int a2]) cl_RL_53 (ct_X11_swaps l hl G a0 ha0 a1 a2 M) dd_L_swaps_5 ha0 (by decide) (Nat.le_of_ble_eq_true rfl) (Nat.le_of_ble_eq_true rfl) rfl rfl (fun r1 M1 => ?_) (fun E Mh hne => ?_)
  · refine ev_i2l dd_L_swaps_8 ?_
    refine ev_last dd_L_swaps_9 ha3 rfl ?_
    refine ev_st (fun M2 => ?_)
    refine ev_goto 21 dd_L_swaps_10 (by decide) ?_
    refine ev_iconst (v := 0) dd_L_swaps_21 (by decide) ?_
    exact ev_iret dd_L_swaps_22 rfl (Nat.le_of_ble_eq_true rfl) rfl
  · by_cases hE0 : E = "java/util/NoSuchElementException"
    · subst hE0
      refine ⟨[], ⟨0, 10, 13, 18⟩, [⟨0, 10, 17, 13⟩], rfl, (fun z hz => absurd hz List.not_mem_nil), by decide, by decide, lc_RL_18, by decide +kernel, fun q1 => ?_⟩
      refine ev_it (fun _ => ?_) (fun z => absurd rfl z)
      refine ev_astore (i := 4) (lv' := []) [] dd_L_swaps_13 (by decide) rfl ?_
      refine ev_iconst (v := 1) dd_L_swaps_15 (by decide) ?_
      exact ev_iret dd_L_swaps_16 rfl (Nat.le_of_ble_eq_true rfl) rfl
    by_cases hE1 : E = "java/lang/IllegalArgumentException"
    · subst hE1
      refine ⟨[⟨0, 10, 13, 18⟩], ⟨0, 10, 17, 13⟩, [], rfl, (fun z hz => (List.mem_cons.mp hz).elim (fun e => by rw [e]; exact ⟨by decide, by decide, _, lc_RL_18, by decide +kernel⟩) (fun e => absurd e List.not_mem_nil)), by decide, by decide, lc_RL_13, by decide +kernel, fun q2 => ?_⟩
      refine ev_it (fun z => absurd z (by decide)) (fun _ => ?_)
      refine ev_it (fun _ => ?_) (fun z => absurd rfl z)
      refine ev_astore (i := 4) (lv' := []) [] dd_L_swaps_17 (by decide) rfl ?_
      refine ev_iconst (v := 2) dd_L_swaps_19 (by decide) ?_
      exact ev_iret dd_L_swaps_20 rfl (Nat.le_of_ble_eq_true rfl) rfl
    exact absurd (by unfold zit; rw [if_neg hE0, if_neg hE1]) hne
theorem dd_L_tide_0 : decode Y_L_tide.2.1 0 = .ok (.aload_n 2, 1) := by decide +kernel
theorem dd_L_tide_1 : decode Y_L_tide.2.1 1 = .ok (.iconst 0, 1) := by decide +kernel
theorem dd_L_tide_2 : decode Y_L_tide.2.1 2 = .ok (.aload_n 0, 1) := by decide +kernel
theorem dd_L_tide_3 : decode Y_L_tide.2.1 3 = .ok (.iload_n 1, 1) := by decide +kernel
theorem dd_L_tide_4 : decode Y_L_tide.2.1 4 = .ok (.invokevirtual 72, 3) := by decide +kernel
theorem dd_L_tide_7 : decode Y_L_tide.2.1 7 = .ok (.i2l, 1) := by decide +kernel
theorem dd_L_tide_8 : decode Y_L_tide.2.1 8 = .ok (.lastore, 1) := by decide +kernel
theorem dd_L_tide_9 : decode Y_L_tide.2.1 9 = .ok (.goto 6, 3) := by decide +kernel
theorem dd_L_tide_12 : decode Y_L_tide.2.1 12 = .ok (.astore_n 3, 1) := by decide +kernel
theorem dd_L_tide_13 : decode Y_L_tide.2.1 13 = .ok (.iconst 1, 1) := by decide +kernel
theorem dd_L_tide_14 : decode Y_L_tide.2.1 14 = .ok (.ireturn, 1) := by decide +kernel
theorem dd_L_tide_15 : decode Y_L_tide.2.1 15 = .ok (.iconst 0, 1) := by decide +kernel
theorem dd_L_tide_16 : decode Y_L_tide.2.1 16 = .ok (.ireturn, 1) := by decide +kernel
def F_L_tide (a0 : Nat) (a1 : Int32) (a2 : Nat) (M : zM) : zO := zbH (F_X11_tide a0 a1 M) (fun r1 M1 => zck (zin 0 (zal a2)) (zst (zupB M1 a2 (zix 0) r1.toInt64) (fun M2 => zI 0 M2))) (fun E Mh => zit (E = "java/lang/IllegalArgumentException") (zI 1 Mh) (none))
set_option maxHeartbeats 2000000 in
set_option maxRecDepth 50000 in
theorem ct_L_tide (l : Launch) (hl : l.stackTraces = false) (G : zG) (a0 : Nat) (ha0 : zsh a0 = 11) (a1 : Int32) (a2 : Nat) (ha2 : zsh a2 = 23) (M : zM) : zMh l G Y_L_tide 10 [.ref (G.2.1 + a0), .int a1, .ref (G.2.1 + a2)] M (F_L_tide a0 a1 a2 M) := by
  refine zMh_of (by decide +kernel) (Nat.le_of_ble_eq_true rfl) ?_
  show zEv l G Y_L_tide 10 0 0 [(0, .ref (G.2.1 + a0)), (1, .int a1), (2, .ref (G.2.1 + a2))] [] M (zbH (F_X11_tide a0 a1 M) (fun r1 M1 => zck (zin 0 (zal a2)) (zst (zupB M1 a2 (zix 0) r1.toInt64) (fun M2 => zI 0 M2))) (fun E Mh => zit (E = "java/lang/IllegalArgumentException") (zI 1 Mh) (none)))
  refine ev_aload_n dd_L_tide_0 2 rfl ?_
  refine ev_lv (lv' := [(0, .ref (G.2.1 + a0)), (1, .int a1)]) [0, 1] rfl ?_
  refine ev_iconst (v := 0) dd_L_tide_1 (by decide) ?_
  refine ev_aload_n dd_L_tide_2 0 rfl ?_
  refine ev_lv (lv' := [(1, .int a1)]) [1] rfl ?_
  refine ev_iload_n dd_L_tide_3 0 rfl ?_
  refine ev_lv (lv' := []) [] rfl ?_
  refine ev_callVH (As := [.int a1]) cl_RL_72 (ct_X11_tide l hl G a0 ha0 a1 M) dd_L_tide_4 ha0 (by decide) (Nat.le_of_ble_eq_true rfl) (Nat.le_of_ble_eq_true rfl) rfl rfl (fun r1 M1 => ?_) (fun E Mh hne => ?_)
  · refine ev_i2l dd_L_tide_7 ?_
    refine ev_last dd_L_tide_8 ha2 rfl ?_
    refine ev_st (fun M2 => ?_)
    refine ev_goto 15 dd_L_tide_9 (by decide) ?_
    refine ev_iconst (v := 0) dd_L_tide_15 (by decide) ?_
    exact ev_iret dd_L_tide_16 rfl (Nat.le_of_ble_eq_true rfl) rfl
  · by_cases hE0 : E = "java/lang/IllegalArgumentException"
    · subst hE0
      refine ⟨[], ⟨0, 9, 12, 13⟩, [], rfl, (fun z hz => absurd hz List.not_mem_nil), by decide, by decide, lc_RL_13, by decide +kernel, fun q1 => ?_⟩
      refine ev_it (fun _ => ?_) (fun z => absurd rfl z)
      refine ev_astore_n (i := 3) (lv' := []) [] dd_L_tide_12 rfl (by decide) rfl ?_
      refine ev_iconst (v := 1) dd_L_tide_13 (by decide) ?_
      exact ev_iret dd_L_tide_14 rfl (Nat.le_of_ble_eq_true rfl) rfl
    exact absurd (by unfold zit; rw [if_neg hE0]) hne
theorem dd_L_weather_0 : decode Y_L_weather.2.1 0 = .ok (.aload 4, 2) := by decide +kernel
theorem dd_L_weather_2 : decode Y_L_weather.2.1 2 = .ok (.iconst 0, 1) := by decide +kernel
theorem dd_L_weather_3 : decode Y_L_weather.2.1 3 = .ok (.aload_n 0, 1) := by decide +kernel
theorem dd_L_weather_4 : decode Y_L_weather.2.1 4 = .ok (.iload_n 1, 1) := by decide +kernel
theorem dd_L_weather_5 : decode Y_L_weather.2.1 5 = .ok (.iload_n 2, 1) := by decide +kernel
theorem dd_L_weather_6 : decode Y_L_weather.2.1 6 = .ok (.iload_n 3, 1) := by decide +kernel
theorem dd_L_weather_7 : decode Y_L_weather.2.1 7 = .ok (.invokevirtual 93, 3) := by decide +kernel
theorem dd_L_weather_10 : decode Y_L_weather.2.1 10 = .ok (.i2l, 1) := by decide +kernel
theorem dd_L_weather_11 : decode Y_L_weather.2.1 11 = .ok (.lastore, 1) := by decide +kernel
theorem dd_L_weather_12 : decode Y_L_weather.2.1 12 = .ok (.goto 7, 3) := by decide +kernel
theorem dd_L_weather_15 : decode Y_L_weather.2.1 15 = .ok (.astore 5, 2) := by decide +kernel
theorem dd_L_weather_17 : decode Y_L_weather.2.1 17 = .ok (.iconst 1, 1) := by decide +kernel
theorem dd_L_weather_18 : decode Y_L_weather.2.1 18 = .ok (.ireturn, 1) := by decide +kernel
theorem dd_L_weather_19 : decode Y_L_weather.2.1 19 = .ok (.iconst 0, 1) := by decide +kernel
theorem dd_L_weather_20 : decode Y_L_weather.2.1 20 = .ok (.ireturn, 1) := by decide +kernel
def F_L_weather (a0 : Nat) (a1 : Int32) (a2 : Int32) (a3 : Int32) (a4 : Nat) (M : zM) : zO := zbH (F_X11_weather a0 a1 a2 a3 M) (fun r1 M1 => zck (zin 0 (zal a4)) (zst (zupB M1 a4 (zix 0) r1.toInt64) (fun M2 => zI 0 M2))) (fun E Mh => zit (E = "java/lang/IllegalArgumentException") (zI 1 Mh) (none))
set_option maxHeartbeats 2000000 in
set_option maxRecDepth 50000 in
theorem ct_L_weather (l : Launch) (hl : l.stackTraces = false) (G : zG) (a0 : Nat) (ha0 : zsh a0 = 11) (a1 : Int32) (a2 : Int32) (a3 : Int32) (a4 : Nat) (ha4 : zsh a4 = 23) (M : zM) : zMh l G Y_L_weather 10 [.ref (G.2.1 + a0), .int a1, .int a2, .int a3, .ref (G.2.1 + a4)] M (F_L_weather a0 a1 a2 a3 a4 M) := by
  refine zMh_of (by decide +kernel) (Nat.le_of_ble_eq_true rfl) ?_
  show zEv l G Y_L_weather 10 0 0 [(0, .ref (G.2.1 + a0)), (1, .int a1), (2, .int a2), (3, .int a3), (4, .ref (G.2.1 + a4))] [] M (zbH (F_X11_weather a0 a1 a2 a3 M) (fun r1 M1 => zck (zin 0 (zal a4)) (zst (zupB M1 a4 (zix 0) r1.toInt64) (fun M2 => zI 0 M2))) (fun E Mh => zit (E = "java/lang/IllegalArgumentException") (zI 1 Mh) (none)))
  refine ev_aload dd_L_weather_0 4 rfl ?_
  refine ev_lv (lv' := [(0, .ref (G.2.1 + a0)), (1, .int a1), (2, .int a2), (3, .int a3)]) [0, 1, 2, 3] rfl ?_
  refine ev_iconst (v := 0) dd_L_weather_2 (by decide) ?_
  refine ev_aload_n dd_L_weather_3 0 rfl ?_
  refine ev_lv (lv' := [(1, .int a1), (2, .int a2), (3, .int a3)]) [1, 2, 3] rfl ?_
  refine ev_iload_n dd_L_weather_4 0 rfl ?_
  refine ev_lv (lv' := [(2, .int a2), (3, .int a3)]) [1, 2] rfl ?_
  refine ev_iload_n dd_L_weather_5 0 rfl ?_
  refine ev_lv (lv' := [(3, .int a3)]) [1] rfl ?_
  refine ev_iload_n dd_L_weather_6 0 rfl ?_
  refine ev_lv (lv' := []) [] rfl ?_
  refine ev_callVH (As := [.int a1, .int a2, .int a3]) cl_RL_93 (ct_X11_weather l hl G a0 ha0 a1 a2 a3 M) dd_L_weather_7 ha0 (by decide) (Nat.le_of_ble_eq_true rfl) (Nat.le_of_ble_eq_true rfl) rfl rfl (fun r1 M1 => ?_) (fun E Mh hne => ?_)
  · refine ev_i2l dd_L_weather_10 ?_
    refine ev_last dd_L_weather_11 ha4 rfl ?_
    refine ev_st (fun M2 => ?_)
    refine ev_goto 19 dd_L_weather_12 (by decide) ?_
    refine ev_iconst (v := 0) dd_L_weather_19 (by decide) ?_
    exact ev_iret dd_L_weather_20 rfl (Nat.le_of_ble_eq_true rfl) rfl
  · by_cases hE0 : E = "java/lang/IllegalArgumentException"
    · subst hE0
      refine ⟨[], ⟨0, 12, 15, 13⟩, [], rfl, (fun z hz => absurd hz List.not_mem_nil), by decide, by decide, lc_RL_13, by decide +kernel, fun q1 => ?_⟩
      refine ev_it (fun _ => ?_) (fun z => absurd rfl z)
      refine ev_astore (i := 5) (lv' := []) [] dd_L_weather_15 (by decide) rfl ?_
      refine ev_iconst (v := 1) dd_L_weather_17 (by decide) ?_
      exact ev_iret dd_L_weather_18 rfl (Nat.le_of_ble_eq_true rfl) rfl
    exact absurd (by unfold zit; rw [if_neg hE0]) hne
theorem dd_L_worn_0 : decode Y_L_worn.2.1 0 = .ok (.aload 4, 2) := by decide +kernel
theorem dd_L_worn_2 : decode Y_L_worn.2.1 2 = .ok (.iconst 0, 1) := by decide +kernel
theorem dd_L_worn_3 : decode Y_L_worn.2.1 3 = .ok (.aload_n 0, 1) := by decide +kernel
theorem dd_L_worn_4 : decode Y_L_worn.2.1 4 = .ok (.iload_n 1, 1) := by decide +kernel
theorem dd_L_worn_5 : decode Y_L_worn.2.1 5 = .ok (.iload_n 2, 1) := by decide +kernel
theorem dd_L_worn_6 : decode Y_L_worn.2.1 6 = .ok (.iload_n 3, 1) := by decide +kernel
theorem dd_L_worn_7 : decode Y_L_worn.2.1 7 = .ok (.invokevirtual 69, 3) := by decide +kernel
theorem dd_L_worn_10 : decode Y_L_worn.2.1 10 = .ok (.i2l, 1) := by decide +kernel
theorem dd_L_worn_11 : decode Y_L_worn.2.1 11 = .ok (.lastore, 1) := by decide +kernel
theorem dd_L_worn_12 : decode Y_L_worn.2.1 12 = .ok (.goto 11, 3) := by decide +kernel
theorem dd_L_worn_15 : decode Y_L_worn.2.1 15 = .ok (.astore 5, 2) := by decide +kernel
theorem dd_L_worn_17 : decode Y_L_worn.2.1 17 = .ok (.iconst 1, 1) := by decide +kernel
theorem dd_L_worn_18 : decode Y_L_worn.2.1 18 = .ok (.ireturn, 1) := by decide +kernel
theorem dd_L_worn_19 : decode Y_L_worn.2.1 19 = .ok (.astore 5, 2) := by decide +kernel
theorem dd_L_worn_21 : decode Y_L_worn.2.1 21 = .ok (.iconst 2, 1) := by decide +kernel
theorem dd_L_worn_22 : decode Y_L_worn.2.1 22 = .ok (.ireturn, 1) := by decide +kernel
theorem dd_L_worn_23 : decode Y_L_worn.2.1 23 = .ok (.iconst 0, 1) := by decide +kernel
theorem dd_L_worn_24 : decode Y_L_worn.2.1 24 = .ok (.ireturn, 1) := by decide +kernel
def F_L_worn (a0 : Nat) (a1 : Int32) (a2 : Int32) (a3 : Int32) (a4 : Nat) (M : zM) : zO := zbH (F_X11_worn a0 a1 a2 a3 M) (fun r1 M1 => zck (zin 0 (zal a4)) (zst (zupB M1 a4 (zix 0) r1.toInt64) (fun M2 => zI 0 M2))) (fun E Mh => zit (E = "java/util/NoSuchElementException") (zI 1 Mh) (zit (E = "java/lang/IllegalArgumentException") (zI 2 Mh) (none)))
set_option maxHeartbeats 2000000 in
set_option maxRecDepth 50000 in
theorem ct_L_worn (l : Launch) (hl : l.stackTraces = false) (G : zG) (a0 : Nat) (ha0 : zsh a0 = 11) (a1 : Int32) (a2 : Int32) (a3 : Int32) (a4 : Nat) (ha4 : zsh a4 = 23) (M : zM) : zMh l G Y_L_worn 11 [.ref (G.2.1 + a0), .int a1, .int a2, .int a3, .ref (G.2.1 + a4)] M (F_L_worn a0 a1 a2 a3 a4 M) := by
  refine zMh_of (by decide +kernel) (Nat.le_of_ble_eq_true rfl) ?_
  show zEv l G Y_L_worn 11 0 0 [(0, .ref (G.2.1 + a0)), (1, .int a1), (2, .int a2), (3, .int a3), (4, .ref (G.2.1 + a4))] [] M (zbH (F_X11_worn a0 a1 a2 a3 M) (fun r1 M1 => zck (zin 0 (zal a4)) (zst (zupB M1 a4 (zix 0) r1.toInt64) (fun M2 => zI 0 M2))) (fun E Mh => zit (E = "java/util/NoSuchElementException") (zI 1 Mh) (zit (E = "java/lang/IllegalArgumentException") (zI 2 Mh) (none))))
  refine ev_aload dd_L_worn_0 4 rfl ?_
  refine ev_lv (lv' := [(0, .ref (G.2.1 + a0)), (1, .int a1), (2, .int a2), (3, .int a3)]) [0, 1, 2, 3] rfl ?_
  refine ev_iconst (v := 0) dd_L_worn_2 (by decide) ?_
  refine ev_aload_n dd_L_worn_3 0 rfl ?_
  refine ev_lv (lv' := [(1, .int a1), (2, .int a2), (3, .int a3)]) [1, 2, 3] rfl ?_
  refine ev_iload_n dd_L_worn_4 0 rfl ?_
  refine ev_lv (lv' := [(2, .int a2), (3, .int a3)]) [1, 2] rfl ?_
  refine ev_iload_n dd_L_worn_5 0 rfl ?_
  refine ev_lv (lv' := [(3, .int a3)]) [1] rfl ?_
  refine ev_iload_n dd_L_worn_6 0 rfl ?_
  refine ev_lv (lv' := []) [] rfl ?_
  refine ev_callVH (As := [.int a1, .int a2, .int a3]) cl_RL_69 (ct_X11_worn l hl G a0 ha0 a1 a2 a3 M) dd_L_worn_7 ha0 (by decide) (Nat.le_of_ble_eq_true rfl) (Nat.le_of_ble_eq_true rfl) rfl rfl (fun r1 M1 => ?_) (fun E Mh hne => ?_)
  · refine ev_i2l dd_L_worn_10 ?_
    refine ev_last dd_L_worn_11 ha4 rfl ?_
    refine ev_st (fun M2 => ?_)
    refine ev_goto 23 dd_L_worn_12 (by decide) ?_
    refine ev_iconst (v := 0) dd_L_worn_23 (by decide) ?_
    exact ev_iret dd_L_worn_24 rfl (Nat.le_of_ble_eq_true rfl) rfl
  · by_cases hE0 : E = "java/util/NoSuchElementException"
    · subst hE0
      refine ⟨[], ⟨0, 12, 15, 18⟩, [⟨0, 12, 19, 13⟩], rfl, (fun z hz => absurd hz List.not_mem_nil), by decide, by decide, lc_RL_18, by decide +kernel, fun q1 => ?_⟩
      refine ev_it (fun _ => ?_) (fun z => absurd rfl z)
      refine ev_astore (i := 5) (lv' := []) [] dd_L_worn_15 (by decide) rfl ?_
      refine ev_iconst (v := 1) dd_L_worn_17 (by decide) ?_
      exact ev_iret dd_L_worn_18 rfl (Nat.le_of_ble_eq_true rfl) rfl
    by_cases hE1 : E = "java/lang/IllegalArgumentException"
    · subst hE1
      refine ⟨[⟨0, 12, 15, 18⟩], ⟨0, 12, 19, 13⟩, [], rfl, (fun z hz => (List.mem_cons.mp hz).elim (fun e => by rw [e]; exact ⟨by decide, by decide, _, lc_RL_18, by decide +kernel⟩) (fun e => absurd e List.not_mem_nil)), by decide, by decide, lc_RL_13, by decide +kernel, fun q2 => ?_⟩
      refine ev_it (fun z => absurd z (by decide)) (fun _ => ?_)
      refine ev_it (fun _ => ?_) (fun z => absurd rfl z)
      refine ev_astore (i := 5) (lv' := []) [] dd_L_worn_19 (by decide) rfl ?_
      refine ev_iconst (v := 2) dd_L_worn_21 (by decide) ?_
      exact ev_iret dd_L_worn_22 rfl (Nat.le_of_ble_eq_true rfl) rfl
    exact absurd (by unfold zit; rw [if_neg hE0, if_neg hE1]) hne
