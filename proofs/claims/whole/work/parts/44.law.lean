/-! the law: its loop -/
def F_L_law (G : zG) : Nat → Int32 → zM → zO
  | 0, _, _ => none
  | n + 1, x4, M => zit (((Int32.ofNat G.2.2.2.2.2.2.1) - 6) < x4) (zck (zbo 1) (zI 1 M)) (zck (zin x4 G.2.2.2.2.2.2.1) (zjo (fun  (M132 : zM) => F_L_law G n (x4 + 6) M132) (fun (k1 : zM → zO) => zit (((G.2.2.2.2.2.2.2 (zix x4)) &&& 63) = 0) (zck (zin (x4 + 1) G.2.2.2.2.2.2.1) (zck (zin (x4 + 2) G.2.2.2.2.2.2.1) (zck (zin (x4 + 3) G.2.2.2.2.2.2.1) (zck (zin (x4 + 4) G.2.2.2.2.2.2.1) (zck (zin (x4 + 5) G.2.2.2.2.2.2.1) (zbI (F_X11_feed 0 (G.2.2.2.2.2.2.2 (zix (x4 + 1))) (G.2.2.2.2.2.2.2 (zix (x4 + 2))) (G.2.2.2.2.2.2.2 (zix (x4 + 3))) (G.2.2.2.2.2.2.2 (zix (x4 + 4))) (G.2.2.2.2.2.2.2 (zix (x4 + 5))) M) (fun r1 M1 => zck (zin (x4 + 1) G.2.2.2.2.2.2.1) (zck (zin (x4 + 2) G.2.2.2.2.2.2.1) (zck (zin (x4 + 3) G.2.2.2.2.2.2.1) (zck (zin (x4 + 4) G.2.2.2.2.2.2.1) (zck (zin (x4 + 5) G.2.2.2.2.2.2.1) (zbI (F_X12_feed 79 (G.2.2.2.2.2.2.2 (zix (x4 + 1))) (G.2.2.2.2.2.2.2 (zix (x4 + 2))) (G.2.2.2.2.2.2.2 (zix (x4 + 3))) (G.2.2.2.2.2.2.2 (zix (x4 + 4))) (G.2.2.2.2.2.2.2 (zix (x4 + 5))) M1) (fun r2 M2 => zit (r1 = r2) (k1 M2) (zck (zbo 0) (zI 0 M2))))))))))))))) (zit (((G.2.2.2.2.2.2.2 (zix x4)) &&& 63) = 1) (zck (zin (x4 + 1) G.2.2.2.2.2.2.1) (zbI (F_L_sea 0 (G.2.2.2.2.2.2.2 (zix (x4 + 1))) 124 M) (fun r3 M3 => zck (zin (x4 + 1) G.2.2.2.2.2.2.1) (zbI (F_X12_sea 79 (G.2.2.2.2.2.2.2 (zix (x4 + 1))) M3) (fun r4 M4 => zbI (F_X12_thrown 79 M4) (fun r5 M5 => zit (r5 = r3) (zjo (fun  (M6 : zM) => k1 M6) (fun (k2 : zM → zO) => zit (r3 = 0) (zck (zin 0 1) (zit ((lg_cmp (zgA M5 124 (zix 0)) r4.toInt64) = 0) (k2 M5) (zck (zbo 0) (zI 0 M5)))) (k2 M5))) (zck (zbo 0) (zI 0 M5)))))))) (zit (((G.2.2.2.2.2.2.2 (zix x4)) &&& 63) = 2) (zbI (F_X11_fault 0 M) (fun r6 M7 => zbI (F_X12_fault 79 M7) (fun r7 M8 => zit (r6 = r7) (k1 M8) (zck (zbo 0) (zI 0 M8))))) (zit (((G.2.2.2.2.2.2.2 (zix x4)) &&& 63) = 3) (zck (zin (x4 + 1) G.2.2.2.2.2.2.1) (zbI (F_L_count 0 (G.2.2.2.2.2.2.2 (zix (x4 + 1))) 124 M) (fun r8 M9 => zck (zin (x4 + 1) G.2.2.2.2.2.2.1) (zbI (F_X12_count 79 (G.2.2.2.2.2.2.2 (zix (x4 + 1))) M9) (fun r9 M10 => zbI (F_X12_thrown 79 M10) (fun r10 M11 => zit (r10 = r8) (zjo (fun  (M12 : zM) => k1 M12) (fun (k3 : zM → zO) => zit (r8 = 0) (zck (zin 0 1) (zit ((lg_cmp (zgA M11 124 (zix 0)) r9.toInt64) = 0) (k3 M11) (zck (zbo 0) (zI 0 M11)))) (k3 M11))) (zck (zbo 0) (zI 0 M11)))))))) (zit (((G.2.2.2.2.2.2.2 (zix x4)) &&& 63) = 4) (zck (zin (x4 + 1) G.2.2.2.2.2.2.1) (zck (zin (x4 + 2) G.2.2.2.2.2.2.1) (zbI (F_L_name 0 (G.2.2.2.2.2.2.2 (zix (x4 + 1))) (G.2.2.2.2.2.2.2 (zix (x4 + 2))) 124 M) (fun r11 M13 => zck (zin (x4 + 1) G.2.2.2.2.2.2.1) (zck (zin (x4 + 2) G.2.2.2.2.2.2.1) (zbI (F_X12_name 79 (G.2.2.2.2.2.2.2 (zix (x4 + 1))) (G.2.2.2.2.2.2.2 (zix (x4 + 2))) M13) (fun r12 M14 => zbI (F_X12_thrown 79 M14) (fun r13 M15 => zit (r13 = r11) (zjo (fun  (M16 : zM) => k1 M16) (fun (k4 : zM → zO) => zit (r11 = 0) (zck (zin 0 1) (zit ((lg_cmp (zgA M15 124 (zix 0)) r12.toInt64) = 0) (k4 M15) (zck (zbo 0) (zI 0 M15)))) (k4 M15))) (zck (zbo 0) (zI 0 M15)))))))))) (zit (((G.2.2.2.2.2.2.2 (zix x4)) &&& 63) = 5) (zck (zin (x4 + 1) G.2.2.2.2.2.2.1) (zck (zin (x4 + 2) G.2.2.2.2.2.2.1) (zbI (F_L_letter 0 (G.2.2.2.2.2.2.2 (zix (x4 + 1))) (G.2.2.2.2.2.2.2 (zix (x4 + 2))) 124 M) (fun r14 M17 => zck (zin (x4 + 1) G.2.2.2.2.2.2.1) (zck (zin (x4 + 2) G.2.2.2.2.2.2.1) (zbI (F_X12_letter 79 (G.2.2.2.2.2.2.2 (zix (x4 + 1))) (G.2.2.2.2.2.2.2 (zix (x4 + 2))) M17) (fun r15 M18 => zbI (F_X12_thrown 79 M18) (fun r16 M19 => zit (r16 = r14) (zjo (fun  (M20 : zM) => k1 M20) (fun (k5 : zM → zO) => zit (r14 = 0) (zck (zin 0 1) (zit ((lg_cmp (zgA M19 124 (zix 0)) r15.toInt64) = 0) (k5 M19) (zck (zbo 0) (zI 0 M19)))) (k5 M19))) (zck (zbo 0) (zI 0 M19)))))))))) (zit (((G.2.2.2.2.2.2.2 (zix x4)) &&& 63) = 6) (zck (zin (x4 + 1) G.2.2.2.2.2.2.1) (zbI (F_L_has 0 (G.2.2.2.2.2.2.2 (zix (x4 + 1))) 124 M) (fun r17 M21 => zck (zin (x4 + 1) G.2.2.2.2.2.2.1) (zbI (F_X12_has 79 (G.2.2.2.2.2.2.2 (zix (x4 + 1))) M21) (fun r18 M22 => zbI (F_X12_thrown 79 M22) (fun r19 M23 => zit (r19 = r17) (zjo (fun  (M24 : zM) => k1 M24) (fun (k6 : zM → zO) => zit (r17 = 0) (zck (zin 0 1) (zit ((lg_cmp (zgA M23 124 (zix 0)) r18.toInt64) = 0) (k6 M23) (zck (zbo 0) (zI 0 M23)))) (k6 M23))) (zck (zbo 0) (zI 0 M23)))))))) (zit (((G.2.2.2.2.2.2.2 (zix x4)) &&& 63) = 7) (zck (zin (x4 + 1) G.2.2.2.2.2.2.1) (zck (zin (x4 + 2) G.2.2.2.2.2.2.1) (zbI (F_L_debt 0 (G.2.2.2.2.2.2.2 (zix (x4 + 1))) (G.2.2.2.2.2.2.2 (zix (x4 + 2))) 124 M) (fun r20 M25 => zck (zin (x4 + 1) G.2.2.2.2.2.2.1) (zck (zin (x4 + 2) G.2.2.2.2.2.2.1) (zbI (F_X12_debt 79 (G.2.2.2.2.2.2.2 (zix (x4 + 1))) (G.2.2.2.2.2.2.2 (zix (x4 + 2))) M25) (fun r21 M26 => zbI (F_X12_thrown 79 M26) (fun r22 M27 => zit (r22 = r20) (zjo (fun  (M28 : zM) => k1 M28) (fun (k7 : zM → zO) => zit (r20 = 0) (zck (zin 0 1) (zit ((lg_cmp (zgA M27 124 (zix 0)) r21.toInt64) = 0) (k7 M27) (zck (zbo 0) (zI 0 M27)))) (k7 M27))) (zck (zbo 0) (zI 0 M27)))))))))) (zit (((G.2.2.2.2.2.2.2 (zix x4)) &&& 63) = 8) (zck (zin (x4 + 1) G.2.2.2.2.2.2.1) (zck (zin (x4 + 2) G.2.2.2.2.2.2.1) (zbI (F_L_may 0 (G.2.2.2.2.2.2.2 (zix (x4 + 1))) (G.2.2.2.2.2.2.2 (zix (x4 + 2))) 124 M) (fun r23 M29 => zck (zin (x4 + 1) G.2.2.2.2.2.2.1) (zck (zin (x4 + 2) G.2.2.2.2.2.2.1) (zbI (F_X12_may 79 (G.2.2.2.2.2.2.2 (zix (x4 + 1))) (G.2.2.2.2.2.2.2 (zix (x4 + 2))) M29) (fun r24 M30 => zbI (F_X12_thrown 79 M30) (fun r25 M31 => zit (r25 = r23) (zjo (fun  (M33 : zM) => k1 M33) (fun (k8 : zM → zO) => zit (r23 = 0) (zck (zin 0 1) (zjo (fun (w1 : Int64) (M32 : zM) => zit ((lg_cmp (zgA M31 124 (zix 0)) w1) = 0) (k8 M32) (zck (zbo 0) (zI 0 M32))) (fun (k9 : Int64 → zM → zO) => zit (r24 = 0) (k9 0 M31) (k9 1 M31)))) (k8 M31))) (zck (zbo 0) (zI 0 M31)))))))))) (zit (((G.2.2.2.2.2.2.2 (zix x4)) &&& 63) = 9) (zck (zin (x4 + 1) G.2.2.2.2.2.2.1) (zck (zin (x4 + 2) G.2.2.2.2.2.2.1) (zbI (F_L_swap 0 (G.2.2.2.2.2.2.2 (zix (x4 + 1))) (G.2.2.2.2.2.2.2 (zix (x4 + 2))) 124 M) (fun r26 M34 => zck (zin (x4 + 1) G.2.2.2.2.2.2.1) (zck (zin (x4 + 2) G.2.2.2.2.2.2.1) (zbI (F_X12_swap 79 (G.2.2.2.2.2.2.2 (zix (x4 + 1))) (G.2.2.2.2.2.2.2 (zix (x4 + 2))) M34) (fun r27 M35 => zbI (F_X12_thrown 79 M35) (fun r28 M36 => zit (r28 = r26) (zjo (fun  (M37 : zM) => k1 M37) (fun (k10 : zM → zO) => zit (r26 = 0) (zck (zin 0 1) (zit ((lg_cmp (zgA M36 124 (zix 0)) r27.toInt64) = 0) (k10 M36) (zck (zbo 0) (zI 0 M36)))) (k10 M36))) (zck (zbo 0) (zI 0 M36)))))))))) (zit (((G.2.2.2.2.2.2.2 (zix x4)) &&& 63) = 10) (zbI (F_X11_year 0 M) (fun r29 M38 => zbI (F_X12_year 79 M38) (fun r30 M39 => zit (r29 = r30) (k1 M39) (zck (zbo 0) (zI 0 M39))))) (zit (((G.2.2.2.2.2.2.2 (zix x4)) &&& 63) = 11) (zck (zin (x4 + 1) G.2.2.2.2.2.2.1) (zck (zin (x4 + 2) G.2.2.2.2.2.2.1) (zbI (F_L_forgive 0 (G.2.2.2.2.2.2.2 (zix (x4 + 1))) (G.2.2.2.2.2.2.2 (zix (x4 + 2))) 124 M) (fun r31 M40 => zck (zin (x4 + 1) G.2.2.2.2.2.2.1) (zck (zin (x4 + 2) G.2.2.2.2.2.2.1) (zbI (F_X12_forgive 79 (G.2.2.2.2.2.2.2 (zix (x4 + 1))) (G.2.2.2.2.2.2.2 (zix (x4 + 2))) M40) (fun r32 M41 => zbI (F_X12_thrown 79 M41) (fun r33 M42 => zit (r33 = r31) (zjo (fun  (M43 : zM) => k1 M43) (fun (k11 : zM → zO) => zit (r31 = 0) (zck (zin 0 1) (zit ((lg_cmp (zgA M42 124 (zix 0)) r32.toInt64) = 0) (k11 M42) (zck (zbo 0) (zI 0 M42)))) (k11 M42))) (zck (zbo 0) (zI 0 M42)))))))))) (zit (((G.2.2.2.2.2.2.2 (zix x4)) &&& 63) = 12) (zbI (F_X11_undo 0 M) (fun r34 M44 => zbI (F_X12_undo 79 M44) (fun r35 M45 => zit (r34 = r35) (k1 M45) (zck (zbo 0) (zI 0 M45))))) (zit (((G.2.2.2.2.2.2.2 (zix x4)) &&& 63) = 13) (zck (zin (x4 + 1) G.2.2.2.2.2.2.1) (zck (zin (x4 + 2) G.2.2.2.2.2.2.1) (zck (zin (x4 + 3) G.2.2.2.2.2.2.1) (zbI (F_L_prefers 0 (G.2.2.2.2.2.2.2 (zix (x4 + 1))) (G.2.2.2.2.2.2.2 (zix (x4 + 2))) (G.2.2.2.2.2.2.2 (zix (x4 + 3))) 124 M) (fun r36 M46 => zck (zin (x4 + 1) G.2.2.2.2.2.2.1) (zck (zin (x4 + 2) G.2.2.2.2.2.2.1) (zck (zin (x4 + 3) G.2.2.2.2.2.2.1) (zbI (F_X12_prefers 79 (G.2.2.2.2.2.2.2 (zix (x4 + 1))) (G.2.2.2.2.2.2.2 (zix (x4 + 2))) (G.2.2.2.2.2.2.2 (zix (x4 + 3))) M46) (fun r37 M47 => zbI (F_X12_thrown 79 M47) (fun r38 M48 => zit (r38 = r36) (zjo (fun  (M50 : zM) => k1 M50) (fun (k12 : zM → zO) => zit (r36 = 0) (zck (zin 0 1) (zjo (fun (w2 : Int64) (M49 : zM) => zit ((lg_cmp (zgA M48 124 (zix 0)) w2) = 0) (k12 M49) (zck (zbo 0) (zI 0 M49))) (fun (k13 : Int64 → zM → zO) => zit (r37 = 0) (k13 0 M48) (k13 1 M48)))) (k12 M48))) (zck (zbo 0) (zI 0 M48)))))))))))) (zit (((G.2.2.2.2.2.2.2 (zix x4)) &&& 63) = 14) (zck (zin (x4 + 1) G.2.2.2.2.2.2.1) (zbI (F_L_glad 0 (G.2.2.2.2.2.2.2 (zix (x4 + 1))) 124 M) (fun r39 M51 => zck (zin (x4 + 1) G.2.2.2.2.2.2.1) (zbI (F_X12_glad 79 (G.2.2.2.2.2.2.2 (zix (x4 + 1))) M51) (fun r40 M52 => zbI (F_X12_thrown 79 M52) (fun r41 M53 => zit (r41 = r39) (zjo (fun  (M54 : zM) => k1 M54) (fun (k14 : zM → zO) => zit (r39 = 0) (zck (zin 0 1) (zit ((lg_cmp (zgA M53 124 (zix 0)) r40.toInt64) = 0) (k14 M53) (zck (zbo 0) (zI 0 M53)))) (k14 M53))) (zck (zbo 0) (zI 0 M53)))))))) (zit (((G.2.2.2.2.2.2.2 (zix x4)) &&& 63) = 15) (zck (zin (x4 + 1) G.2.2.2.2.2.2.1) (zbI (F_L_round 0 (G.2.2.2.2.2.2.2 (zix (x4 + 1))) 124 M) (fun r42 M55 => zck (zin (x4 + 1) G.2.2.2.2.2.2.1) (zbI (F_X12_round 79 (G.2.2.2.2.2.2.2 (zix (x4 + 1))) M55) (fun r43 M56 => zbI (F_X12_thrown 79 M56) (fun r44 M57 => zit (r44 = r42) (zjo (fun  (M58 : zM) => k1 M58) (fun (k15 : zM → zO) => zit (r42 = 0) (zck (zin 0 1) (zit ((lg_cmp (zgA M57 124 (zix 0)) r43.toInt64) = 0) (k15 M57) (zck (zbo 0) (zI 0 M57)))) (k15 M57))) (zck (zbo 0) (zI 0 M57)))))))) (zit (((G.2.2.2.2.2.2.2 (zix x4)) &&& 63) = 16) (zbI (F_X11_leave 0 M) (fun r45 M59 => zbI (F_X12_leave 79 M59) (fun r46 M60 => zit (r45 = r46) (k1 M60) (zck (zbo 0) (zI 0 M60))))) (zit (((G.2.2.2.2.2.2.2 (zix x4)) &&& 63) = 17) (zck (zin (x4 + 1) G.2.2.2.2.2.2.1) (zck (zin (x4 + 2) G.2.2.2.2.2.2.1) (zbI (F_L_swaps 0 (G.2.2.2.2.2.2.2 (zix (x4 + 1))) (G.2.2.2.2.2.2.2 (zix (x4 + 2))) 124 M) (fun r47 M61 => zck (zin (x4 + 1) G.2.2.2.2.2.2.1) (zck (zin (x4 + 2) G.2.2.2.2.2.2.1) (zbI (F_X12_swaps 79 (G.2.2.2.2.2.2.2 (zix (x4 + 1))) (G.2.2.2.2.2.2.2 (zix (x4 + 2))) M61) (fun r48 M62 => zbI (F_X12_thrown 79 M62) (fun r49 M63 => zit (r49 = r47) (zjo (fun  (M64 : zM) => k1 M64) (fun (k16 : zM → zO) => zit (r47 = 0) (zck (zin 0 1) (zit ((lg_cmp (zgA M63 124 (zix 0)) r48.toInt64) = 0) (k16 M63) (zck (zbo 0) (zI 0 M63)))) (k16 M63))) (zck (zbo 0) (zI 0 M63)))))))))) (zit (((G.2.2.2.2.2.2.2 (zix x4)) &&& 63) = 18) (zck (zin (x4 + 1) G.2.2.2.2.2.2.1) (zck (zin (x4 + 2) G.2.2.2.2.2.2.1) (zck (zin (x4 + 3) G.2.2.2.2.2.2.1) (zbI (F_L_ship 0 (G.2.2.2.2.2.2.2 (zix (x4 + 1))) (G.2.2.2.2.2.2.2 (zix (x4 + 2))) (G.2.2.2.2.2.2.2 (zix (x4 + 3))) 124 M) (fun r50 M65 => zck (zin (x4 + 1) G.2.2.2.2.2.2.1) (zck (zin (x4 + 2) G.2.2.2.2.2.2.1) (zck (zin (x4 + 3) G.2.2.2.2.2.2.1) (zbI (F_X12_ship 79 (G.2.2.2.2.2.2.2 (zix (x4 + 1))) (G.2.2.2.2.2.2.2 (zix (x4 + 2))) (G.2.2.2.2.2.2.2 (zix (x4 + 3))) M65) (fun r51 M66 => zbI (F_X12_thrown 79 M66) (fun r52 M67 => zit (r52 = r50) (zjo (fun  (M68 : zM) => k1 M68) (fun (k17 : zM → zO) => zit (r50 = 0) (zck (zin 0 1) (zit ((lg_cmp (zgA M67 124 (zix 0)) r51.toInt64) = 0) (k17 M67) (zck (zbo 0) (zI 0 M67)))) (k17 M67))) (zck (zbo 0) (zI 0 M67)))))))))))) (zit (((G.2.2.2.2.2.2.2 (zix x4)) &&& 63) = 19) (zck (zin (x4 + 1) G.2.2.2.2.2.2.1) (zck (zin (x4 + 2) G.2.2.2.2.2.2.1) (zck (zin (x4 + 3) G.2.2.2.2.2.2.1) (zbI (F_L_joined 0 (G.2.2.2.2.2.2.2 (zix (x4 + 1))) (G.2.2.2.2.2.2.2 (zix (x4 + 2))) (G.2.2.2.2.2.2.2 (zix (x4 + 3))) 124 M) (fun r53 M69 => zck (zin (x4 + 1) G.2.2.2.2.2.2.1) (zck (zin (x4 + 2) G.2.2.2.2.2.2.1) (zck (zin (x4 + 3) G.2.2.2.2.2.2.1) (zbI (F_X12_joined 79 (G.2.2.2.2.2.2.2 (zix (x4 + 1))) (G.2.2.2.2.2.2.2 (zix (x4 + 2))) (G.2.2.2.2.2.2.2 (zix (x4 + 3))) M69) (fun r54 M70 => zbI (F_X12_thrown 79 M70) (fun r55 M71 => zit (r55 = r53) (zjo (fun  (M72 : zM) => k1 M72) (fun (k18 : zM → zO) => zit (r53 = 0) (zck (zin 0 1) (zit ((lg_cmp (zgA M71 124 (zix 0)) r54.toInt64) = 0) (k18 M71) (zck (zbo 0) (zI 0 M71)))) (k18 M71))) (zck (zbo 0) (zI 0 M71)))))))))))) (zit (((G.2.2.2.2.2.2.2 (zix x4)) &&& 63) = 20) (zck (zin (x4 + 1) G.2.2.2.2.2.2.1) (zck (zin (x4 + 2) G.2.2.2.2.2.2.1) (zbI (F_L_inside 0 (G.2.2.2.2.2.2.2 (zix (x4 + 1))) (G.2.2.2.2.2.2.2 (zix (x4 + 2))) 124 M) (fun r56 M73 => zck (zin (x4 + 1) G.2.2.2.2.2.2.1) (zck (zin (x4 + 2) G.2.2.2.2.2.2.1) (zbI (F_X12_inside 79 (G.2.2.2.2.2.2.2 (zix (x4 + 1))) (G.2.2.2.2.2.2.2 (zix (x4 + 2))) M73) (fun r57 M74 => zbI (F_X12_thrown 79 M74) (fun r58 M75 => zit (r58 = r56) (zjo (fun  (M77 : zM) => k1 M77) (fun (k19 : zM → zO) => zit (r56 = 0) (zck (zin 0 1) (zjo (fun (w3 : Int64) (M76 : zM) => zit ((lg_cmp (zgA M75 124 (zix 0)) w3) = 0) (k19 M76) (zck (zbo 0) (zI 0 M76))) (fun (k20 : Int64 → zM → zO) => zit (r57 = 0) (k20 0 M75) (k20 1 M75)))) (k19 M75))) (zck (zbo 0) (zI 0 M75)))))))))) (zit (((G.2.2.2.2.2.2.2 (zix x4)) &&& 63) = 21) (zck (zin (x4 + 1) G.2.2.2.2.2.2.1) (zck (zin (x4 + 2) G.2.2.2.2.2.2.1) (zbI (F_L_shortest 0 (G.2.2.2.2.2.2.2 (zix (x4 + 1))) (G.2.2.2.2.2.2.2 (zix (x4 + 2))) 124 M) (fun r59 M78 => zck (zin (x4 + 1) G.2.2.2.2.2.2.1) (zck (zin (x4 + 2) G.2.2.2.2.2.2.1) (zbI (F_X12_shortest 79 (G.2.2.2.2.2.2.2 (zix (x4 + 1))) (G.2.2.2.2.2.2.2 (zix (x4 + 2))) M78) (fun r60 M79 => zbI (F_X12_thrown 79 M79) (fun r61 M80 => zit (r61 = r59) (zjo (fun  (M81 : zM) => k1 M81) (fun (k21 : zM → zO) => zit (r59 = 0) (zck (zin 0 1) (zit ((lg_cmp (zgA M80 124 (zix 0)) r60.toInt64) = 0) (k21 M80) (zck (zbo 0) (zI 0 M80)))) (k21 M80))) (zck (zbo 0) (zI 0 M80)))))))))) (zit (((G.2.2.2.2.2.2.2 (zix x4)) &&& 63) = 22) (zck (zin (x4 + 1) G.2.2.2.2.2.2.1) (zck (zin (x4 + 2) G.2.2.2.2.2.2.1) (zck (zin (x4 + 3) G.2.2.2.2.2.2.1) (zbI (F_L_worn 0 (G.2.2.2.2.2.2.2 (zix (x4 + 1))) (G.2.2.2.2.2.2.2 (zix (x4 + 2))) (G.2.2.2.2.2.2.2 (zix (x4 + 3))) 124 M) (fun r62 M82 => zck (zin (x4 + 1) G.2.2.2.2.2.2.1) (zck (zin (x4 + 2) G.2.2.2.2.2.2.1) (zck (zin (x4 + 3) G.2.2.2.2.2.2.1) (zbI (F_X12_worn 79 (G.2.2.2.2.2.2.2 (zix (x4 + 1))) (G.2.2.2.2.2.2.2 (zix (x4 + 2))) (G.2.2.2.2.2.2.2 (zix (x4 + 3))) M82) (fun r63 M83 => zbI (F_X12_thrown 79 M83) (fun r64 M84 => zit (r64 = r62) (zjo (fun  (M85 : zM) => k1 M85) (fun (k22 : zM → zO) => zit (r62 = 0) (zck (zin 0 1) (zit ((lg_cmp (zgA M84 124 (zix 0)) r63.toInt64) = 0) (k22 M84) (zck (zbo 0) (zI 0 M84)))) (k22 M84))) (zck (zbo 0) (zI 0 M84)))))))))))) (zit (((G.2.2.2.2.2.2.2 (zix x4)) &&& 63) = 23) (zck (zin (x4 + 1) G.2.2.2.2.2.2.1) (zbI (F_L_tide 0 (G.2.2.2.2.2.2.2 (zix (x4 + 1))) 124 M) (fun r65 M86 => zck (zin (x4 + 1) G.2.2.2.2.2.2.1) (zbI (F_X12_tide 79 (G.2.2.2.2.2.2.2 (zix (x4 + 1))) M86) (fun r66 M87 => zbI (F_X12_thrown 79 M87) (fun r67 M88 => zit (r67 = r65) (zjo (fun  (M89 : zM) => k1 M89) (fun (k23 : zM → zO) => zit (r65 = 0) (zck (zin 0 1) (zit ((lg_cmp (zgA M88 124 (zix 0)) r66.toInt64) = 0) (k23 M88) (zck (zbo 0) (zI 0 M88)))) (k23 M88))) (zck (zbo 0) (zI 0 M88)))))))) (zit (((G.2.2.2.2.2.2.2 (zix x4)) &&& 63) = 24) (zck (zin (x4 + 1) G.2.2.2.2.2.2.1) (zck (zin (x4 + 2) G.2.2.2.2.2.2.1) (zbI (F_L_lies 0 (G.2.2.2.2.2.2.2 (zix (x4 + 1))) (G.2.2.2.2.2.2.2 (zix (x4 + 2))) 124 M) (fun r68 M90 => zck (zin (x4 + 1) G.2.2.2.2.2.2.1) (zck (zin (x4 + 2) G.2.2.2.2.2.2.1) (zbI (F_X12_lies 79 (G.2.2.2.2.2.2.2 (zix (x4 + 1))) (G.2.2.2.2.2.2.2 (zix (x4 + 2))) M90) (fun r69 M91 => zbI (F_X12_thrown 79 M91) (fun r70 M92 => zit (r70 = r68) (zjo (fun  (M93 : zM) => k1 M93) (fun (k24 : zM → zO) => zit (r68 = 0) (zck (zin 0 1) (zit ((lg_cmp (zgA M92 124 (zix 0)) r69.toInt64) = 0) (k24 M92) (zck (zbo 0) (zI 0 M92)))) (k24 M92))) (zck (zbo 0) (zI 0 M92)))))))))) (zit (((G.2.2.2.2.2.2.2 (zix x4)) &&& 63) = 25) (zck (zin (x4 + 1) G.2.2.2.2.2.2.1) (zck (zin (x4 + 2) G.2.2.2.2.2.2.1) (zbI (F_L_see 0 (G.2.2.2.2.2.2.2 (zix (x4 + 1))) (G.2.2.2.2.2.2.2 (zix (x4 + 2))) 124 M) (fun r71 M94 => zck (zin (x4 + 1) G.2.2.2.2.2.2.1) (zck (zin (x4 + 2) G.2.2.2.2.2.2.1) (zbI (F_X12_see 79 (G.2.2.2.2.2.2.2 (zix (x4 + 1))) (G.2.2.2.2.2.2.2 (zix (x4 + 2))) M94) (fun r72 M95 => zbI (F_X12_thrown 79 M95) (fun r73 M96 => zit (r73 = r71) (zjo (fun  (M97 : zM) => k1 M97) (fun (k25 : zM → zO) => zit (r71 = 0) (zck (zin 0 1) (zit ((lg_cmp (zgA M96 124 (zix 0)) r72.toInt64) = 0) (k25 M96) (zck (zbo 0) (zI 0 M96)))) (k25 M96))) (zck (zbo 0) (zI 0 M96)))))))))) (zit (((G.2.2.2.2.2.2.2 (zix x4)) &&& 63) = 26) (zbV (F_X11_forget 0 M) (fun M98 => zbV (F_X12_forget 79 M98) (fun M99 => k1 M99))) (zit (((G.2.2.2.2.2.2.2 (zix x4)) &&& 63) = 27) (zck (zin (x4 + 1) G.2.2.2.2.2.2.1) (zck (zin (x4 + 2) G.2.2.2.2.2.2.1) (zbI (F_L_sales 0 (G.2.2.2.2.2.2.2 (zix (x4 + 1))) (G.2.2.2.2.2.2.2 (zix (x4 + 2))) 124 M) (fun r74 M100 => zck (zin (x4 + 1) G.2.2.2.2.2.2.1) (zck (zin (x4 + 2) G.2.2.2.2.2.2.1) (zbI (F_X12_sales 79 (G.2.2.2.2.2.2.2 (zix (x4 + 1))) (G.2.2.2.2.2.2.2 (zix (x4 + 2))) M100) (fun r75 M101 => zbI (F_X12_thrown 79 M101) (fun r76 M102 => zit (r76 = r74) (zjo (fun  (M103 : zM) => k1 M103) (fun (k26 : zM → zO) => zit (r74 = 0) (zck (zin 0 1) (zit ((lg_cmp (zgA M102 124 (zix 0)) r75.toInt64) = 0) (k26 M102) (zck (zbo 0) (zI 0 M102)))) (k26 M102))) (zck (zbo 0) (zI 0 M102)))))))))) (zit (((G.2.2.2.2.2.2.2 (zix x4)) &&& 63) = 28) (zck (zin (x4 + 1) G.2.2.2.2.2.2.1) (zbI (F_L_look 0 (G.2.2.2.2.2.2.2 (zix (x4 + 1))) 124 M) (fun r77 M104 => zck (zin (x4 + 1) G.2.2.2.2.2.2.1) (zbI (F_X12_look 79 (G.2.2.2.2.2.2.2 (zix (x4 + 1))) M104) (fun r78 M105 => zbI (F_X12_thrown 79 M105) (fun r79 M106 => zit (r79 = r77) (zjo (fun  (M107 : zM) => k1 M107) (fun (k27 : zM → zO) => zit (r77 = 0) (zck (zin 0 1) (zit ((lg_cmp (zgA M106 124 (zix 0)) r78.toInt64) = 0) (k27 M106) (zck (zbo 0) (zI 0 M106)))) (k27 M106))) (zck (zbo 0) (zI 0 M106)))))))) (zit (((G.2.2.2.2.2.2.2 (zix x4)) &&& 63) = 29) (zck (zin (x4 + 1) G.2.2.2.2.2.2.1) (zck (zin (x4 + 2) G.2.2.2.2.2.2.1) (zck (zin (x4 + 3) G.2.2.2.2.2.2.1) (zbI (F_L_clerks 0 (G.2.2.2.2.2.2.2 (zix (x4 + 1))) (G.2.2.2.2.2.2.2 (zix (x4 + 2))) (G.2.2.2.2.2.2.2 (zix (x4 + 3))) 124 M) (fun r80 M108 => zck (zin (x4 + 1) G.2.2.2.2.2.2.1) (zck (zin (x4 + 2) G.2.2.2.2.2.2.1) (zck (zin (x4 + 3) G.2.2.2.2.2.2.1) (zbI (F_X12_clerks 79 (G.2.2.2.2.2.2.2 (zix (x4 + 1))) (G.2.2.2.2.2.2.2 (zix (x4 + 2))) (G.2.2.2.2.2.2.2 (zix (x4 + 3))) M108) (fun r81 M109 => zbI (F_X12_thrown 79 M109) (fun r82 M110 => zit (r82 = r80) (zjo (fun  (M111 : zM) => k1 M111) (fun (k28 : zM → zO) => zit (r80 = 0) (zck (zin 0 1) (zit ((lg_cmp (zgA M110 124 (zix 0)) r81.toInt64) = 0) (k28 M110) (zck (zbo 0) (zI 0 M110)))) (k28 M110))) (zck (zbo 0) (zI 0 M110)))))))))))) (zit (((G.2.2.2.2.2.2.2 (zix x4)) &&& 63) = 30) (zck (zin (x4 + 1) G.2.2.2.2.2.2.1) (zck (zin (x4 + 2) G.2.2.2.2.2.2.1) (zck (zin (x4 + 3) G.2.2.2.2.2.2.1) (zbI (F_L_century 0 (G.2.2.2.2.2.2.2 (zix (x4 + 1))) (G.2.2.2.2.2.2.2 (zix (x4 + 2))) (G.2.2.2.2.2.2.2 (zix (x4 + 3))) 124 M) (fun r83 M112 => zck (zin (x4 + 1) G.2.2.2.2.2.2.1) (zck (zin (x4 + 2) G.2.2.2.2.2.2.1) (zck (zin (x4 + 3) G.2.2.2.2.2.2.1) (zbI (F_X12_century 79 (G.2.2.2.2.2.2.2 (zix (x4 + 1))) (G.2.2.2.2.2.2.2 (zix (x4 + 2))) (G.2.2.2.2.2.2.2 (zix (x4 + 3))) M112) (fun r84 M113 => zbI (F_X12_thrown 79 M113) (fun r85 M114 => zit (r85 = r83) (zjo (fun  (M115 : zM) => k1 M115) (fun (k29 : zM → zO) => zit (r83 = 0) (zck (zin 0 1) (zit ((lg_cmp (zgA M114 124 (zix 0)) r84.toInt64) = 0) (k29 M114) (zck (zbo 0) (zI 0 M114)))) (k29 M114))) (zck (zbo 0) (zI 0 M114)))))))))))) (zit (((G.2.2.2.2.2.2.2 (zix x4)) &&& 63) = 31) (zck (zin (x4 + 1) G.2.2.2.2.2.2.1) (zck (zin (x4 + 2) G.2.2.2.2.2.2.1) (zck (zin (x4 + 3) G.2.2.2.2.2.2.1) (zbI (F_L_weather 0 (G.2.2.2.2.2.2.2 (zix (x4 + 1))) (G.2.2.2.2.2.2.2 (zix (x4 + 2))) (G.2.2.2.2.2.2.2 (zix (x4 + 3))) 124 M) (fun r86 M116 => zck (zin (x4 + 1) G.2.2.2.2.2.2.1) (zck (zin (x4 + 2) G.2.2.2.2.2.2.1) (zck (zin (x4 + 3) G.2.2.2.2.2.2.1) (zbI (F_X12_weather 79 (G.2.2.2.2.2.2.2 (zix (x4 + 1))) (G.2.2.2.2.2.2.2 (zix (x4 + 2))) (G.2.2.2.2.2.2.2 (zix (x4 + 3))) M116) (fun r87 M117 => zbI (F_X12_thrown 79 M117) (fun r88 M118 => zit (r88 = r86) (zjo (fun  (M119 : zM) => k1 M119) (fun (k30 : zM → zO) => zit (r86 = 0) (zck (zin 0 1) (zit ((lg_cmp (zgA M118 124 (zix 0)) r87.toInt64) = 0) (k30 M118) (zck (zbo 0) (zI 0 M118)))) (k30 M118))) (zck (zbo 0) (zI 0 M118)))))))))))) (zit (((G.2.2.2.2.2.2.2 (zix x4)) &&& 63) = 32) (zck (zin (x4 + 1) G.2.2.2.2.2.2.1) (zbI (F_L_owed 0 (G.2.2.2.2.2.2.2 (zix (x4 + 1))) 124 M) (fun r89 M120 => zck (zin (x4 + 1) G.2.2.2.2.2.2.1) (zbI (F_X12_owed 79 (G.2.2.2.2.2.2.2 (zix (x4 + 1))) M120) (fun r90 M121 => zbI (F_X12_thrown 79 M121) (fun r91 M122 => zit (r91 = r89) (zjo (fun  (M123 : zM) => k1 M123) (fun (k31 : zM → zO) => zit (r89 = 0) (zck (zin 0 1) (zit ((lg_cmp (zgA M122 124 (zix 0)) r90.toInt64) = 0) (k31 M122) (zck (zbo 0) (zI 0 M122)))) (k31 M122))) (zck (zbo 0) (zI 0 M122)))))))) (zit (((G.2.2.2.2.2.2.2 (zix x4)) &&& 63) = 33) (zck (zin (x4 + 1) G.2.2.2.2.2.2.1) (zbI (F_L_caravan 0 (G.2.2.2.2.2.2.2 (zix (x4 + 1))) 124 M) (fun r92 M124 => zck (zin (x4 + 1) G.2.2.2.2.2.2.1) (zbI (F_X12_caravan 79 (G.2.2.2.2.2.2.2 (zix (x4 + 1))) M124) (fun r93 M125 => zbI (F_X12_thrown 79 M125) (fun r94 M126 => zit (r94 = r92) (zjo (fun  (M127 : zM) => k1 M127) (fun (k32 : zM → zO) => zit (r92 = 0) (zck (zin 0 1) (zit ((lg_cmp (zgA M126 124 (zix 0)) r93.toInt64) = 0) (k32 M126) (zck (zbo 0) (zI 0 M126)))) (k32 M126))) (zck (zbo 0) (zI 0 M126)))))))) (zit (((G.2.2.2.2.2.2.2 (zix x4)) &&& 63) = 34) (zbV (F_X11_image 0 M) (fun M128 => zbV (F_X12_image 79 M128) (fun M129 => k1 M129))) (zit (((G.2.2.2.2.2.2.2 (zix x4)) &&& 63) = 35) (zbI (F_X11_restore 0 M) (fun r95 M130 => zbI (F_X12_restore 79 M130) (fun r96 M131 => zit (r95 = r96) (k1 M131) (zck (zbo 0) (zI 0 M131))))) (k1 M)))))))))))))))))))))))))))))))))))))))
set_option maxHeartbeats 2000000 in
set_option maxRecDepth 50000 in
theorem ct_L_law (l : Launch) (hl : l.stackTraces = false) (G : zG) : ∀ (n w : Nat) (hw : w + 4 * n ≤ 2100) (x4 : Int32) (M : zM), zEv l G Y_L_law 200 (w + 0) 23 [(0, .ref G.2.2.2.2.2.1), (1, .ref (G.2.1 + 0)), (2, .ref (G.2.1 + 79)), (3, .ref (G.2.1 + 124)), (4, .int x4)] [] M (F_L_law G n x4 M) := by
  intro n
  induction n with
  | zero => intro w hw x4 M; exact ev_none
  | succ n ih =>
    intro w hw x4 M
    show zEv l G Y_L_law 200 (w + 0) 23 [(0, .ref G.2.2.2.2.2.1), (1, .ref (G.2.1 + 0)), (2, .ref (G.2.1 + 79)), (3, .ref (G.2.1 + 124)), (4, .int x4)] [] M (zit (((Int32.ofNat G.2.2.2.2.2.2.1) - 6) < x4) (zck (zbo 1) (zI 1 M)) (zck (zin x4 G.2.2.2.2.2.2.1) (zjo (fun  (M132 : zM) => F_L_law G n (x4 + 6) M132) (fun (k1 : zM → zO) => zit (((G.2.2.2.2.2.2.2 (zix x4)) &&& 63) = 0) (zck (zin (x4 + 1) G.2.2.2.2.2.2.1) (zck (zin (x4 + 2) G.2.2.2.2.2.2.1) (zck (zin (x4 + 3) G.2.2.2.2.2.2.1) (zck (zin (x4 + 4) G.2.2.2.2.2.2.1) (zck (zin (x4 + 5) G.2.2.2.2.2.2.1) (zbI (F_X11_feed 0 (G.2.2.2.2.2.2.2 (zix (x4 + 1))) (G.2.2.2.2.2.2.2 (zix (x4 + 2))) (G.2.2.2.2.2.2.2 (zix (x4 + 3))) (G.2.2.2.2.2.2.2 (zix (x4 + 4))) (G.2.2.2.2.2.2.2 (zix (x4 + 5))) M) (fun r1 M1 => zck (zin (x4 + 1) G.2.2.2.2.2.2.1) (zck (zin (x4 + 2) G.2.2.2.2.2.2.1) (zck (zin (x4 + 3) G.2.2.2.2.2.2.1) (zck (zin (x4 + 4) G.2.2.2.2.2.2.1) (zck (zin (x4 + 5) G.2.2.2.2.2.2.1) (zbI (F_X12_feed 79 (G.2.2.2.2.2.2.2 (zix (x4 + 1))) (G.2.2.2.2.2.2.2 (zix (x4 + 2))) (G.2.2.2.2.2.2.2 (zix (x4 + 3))) (G.2.2.2.2.2.2.2 (zix (x4 + 4))) (G.2.2.2.2.2.2.2 (zix (x4 + 5))) M1) (fun r2 M2 => zit (r1 = r2) (k1 M2) (zck (zbo 0) (zI 0 M2))))))))))))))) (zit (((G.2.2.2.2.2.2.2 (zix x4)) &&& 63) = 1) (zck (zin (x4 + 1) G.2.2.2.2.2.2.1) (zbI (F_L_sea 0 (G.2.2.2.2.2.2.2 (zix (x4 + 1))) 124 M) (fun r3 M3 => zck (zin (x4 + 1) G.2.2.2.2.2.2.1) (zbI (F_X12_sea 79 (G.2.2.2.2.2.2.2 (zix (x4 + 1))) M3) (fun r4 M4 => zbI (F_X12_thrown 79 M4) (fun r5 M5 => zit (r5 = r3) (zjo (fun  (M6 : zM) => k1 M6) (fun (k2 : zM → zO) => zit (r3 = 0) (zck (zin 0 1) (zit ((lg_cmp (zgA M5 124 (zix 0)) r4.toInt64) = 0) (k2 M5) (zck (zbo 0) (zI 0 M5)))) (k2 M5))) (zck (zbo 0) (zI 0 M5)))))))) (zit (((G.2.2.2.2.2.2.2 (zix x4)) &&& 63) = 2) (zbI (F_X11_fault 0 M) (fun r6 M7 => zbI (F_X12_fault 79 M7) (fun r7 M8 => zit (r6 = r7) (k1 M8) (zck (zbo 0) (zI 0 M8))))) (zit (((G.2.2.2.2.2.2.2 (zix x4)) &&& 63) = 3) (zck (zin (x4 + 1) G.2.2.2.2.2.2.1) (zbI (F_L_count 0 (G.2.2.2.2.2.2.2 (zix (x4 + 1))) 124 M) (fun r8 M9 => zck (zin (x4 + 1) G.2.2.2.2.2.2.1) (zbI (F_X12_count 79 (G.2.2.2.2.2.2.2 (zix (x4 + 1))) M9) (fun r9 M10 => zbI (F_X12_thrown 79 M10) (fun r10 M11 => zit (r10 = r8) (zjo (fun  (M12 : zM) => k1 M12) (fun (k3 : zM → zO) => zit (r8 = 0) (zck (zin 0 1) (zit ((lg_cmp (zgA M11 124 (zix 0)) r9.toInt64) = 0) (k3 M11) (zck (zbo 0) (zI 0 M11)))) (k3 M11))) (zck (zbo 0) (zI 0 M11)))))))) (zit (((G.2.2.2.2.2.2.2 (zix x4)) &&& 63) = 4) (zck (zin (x4 + 1) G.2.2.2.2.2.2.1) (zck (zin (x4 + 2) G.2.2.2.2.2.2.1) (zbI (F_L_name 0 (G.2.2.2.2.2.2.2 (zix (x4 + 1))) (G.2.2.2.2.2.2.2 (zix (x4 + 2))) 124 M) (fun r11 M13 => zck (zin (x4 + 1) G.2.2.2.2.2.2.1) (zck (zin (x4 + 2) G.2.2.2.2.2.2.1) (zbI (F_X12_name 79 (G.2.2.2.2.2.2.2 (zix (x4 + 1))) (G.2.2.2.2.2.2.2 (zix (x4 + 2))) M13) (fun r12 M14 => zbI (F_X12_thrown 79 M14) (fun r13 M15 => zit (r13 = r11) (zjo (fun  (M16 : zM) => k1 M16) (fun (k4 : zM → zO) => zit (r11 = 0) (zck (zin 0 1) (zit ((lg_cmp (zgA M15 124 (zix 0)) r12.toInt64) = 0) (k4 M15) (zck (zbo 0) (zI 0 M15)))) (k4 M15))) (zck (zbo 0) (zI 0 M15)))))))))) (zit (((G.2.2.2.2.2.2.2 (zix x4)) &&& 63) = 5) (zck (zin (x4 + 1) G.2.2.2.2.2.2.1) (zck (zin (x4 + 2) G.2.2.2.2.2.2.1) (zbI (F_L_letter 0 (G.2.2.2.2.2.2.2 (zix (x4 + 1))) (G.2.2.2.2.2.2.2 (zix (x4 + 2))) 124 M) (fun r14 M17 => zck (zin (x4 + 1) G.2.2.2.2.2.2.1) (zck (zin (x4 + 2) G.2.2.2.2.2.2.1) (zbI (F_X12_letter 79 (G.2.2.2.2.2.2.2 (zix (x4 + 1))) (G.2.2.2.2.2.2.2 (zix (x4 + 2))) M17) (fun r15 M18 => zbI (F_X12_thrown 79 M18) (fun r16 M19 => zit (r16 = r14) (zjo (fun  (M20 : zM) => k1 M20) (fun (k5 : zM → zO) => zit (r14 = 0) (zck (zin 0 1) (zit ((lg_cmp (zgA M19 124 (zix 0)) r15.toInt64) = 0) (k5 M19) (zck (zbo 0) (zI 0 M19)))) (k5 M19))) (zck (zbo 0) (zI 0 M19)))))))))) (zit (((G.2.2.2.2.2.2.2 (zix x4)) &&& 63) = 6) (zck (zin (x4 + 1) G.2.2.2.2.2.2.1) (zbI (F_L_has 0 (G.2.2.2.2.2.2.2 (zix (x4 + 1))) 124 M) (fun r17 M21 => zck (zin (x4 + 1) G.2.2.2.2.2.2.1) (zbI (F_X12_has 79 (G.2.2.2.2.2.2.2 (zix (x4 + 1))) M21) (fun r18 M22 => zbI (F_X12_thrown 79 M22) (fun r19 M23 => zit (r19 = r17) (zjo (fun  (M24 : zM) => k1 M24) (fun (k6 : zM → zO) => zit (r17 = 0) (zck (zin 0 1) (zit ((lg_cmp (zgA M23 124 (zix 0)) r18.toInt64) = 0) (k6 M23) (zck (zbo 0) (zI 0 M23)))) (k6 M23))) (zck (zbo 0) (zI 0 M23)))))))) (zit (((G.2.2.2.2.2.2.2 (zix x4)) &&& 63) = 7) (zck (zin (x4 + 1) G.2.2.2.2.2.2.1) (zck (zin (x4 + 2) G.2.2.2.2.2.2.1) (zbI (F_L_debt 0 (G.2.2.2.2.2.2.2 (zix (x4 + 1))) (G.2.2.2.2.2.2.2 (zix (x4 + 2))) 124 M) (fun r20 M25 => zck (zin (x4 + 1) G.2.2.2.2.2.2.1) (zck (zin (x4 + 2) G.2.2.2.2.2.2.1) (zbI (F_X12_debt 79 (G.2.2.2.2.2.2.2 (zix (x4 + 1))) (G.2.2.2.2.2.2.2 (zix (x4 + 2))) M25) (fun r21 M26 => zbI (F_X12_thrown 79 M26) (fun r22 M27 => zit (r22 = r20) (zjo (fun  (M28 : zM) => k1 M28) (fun (k7 : zM → zO) => zit (r20 = 0) (zck (zin 0 1) (zit ((lg_cmp (zgA M27 124 (zix 0)) r21.toInt64) = 0) (k7 M27) (zck (zbo 0) (zI 0 M27)))) (k7 M27))) (zck (zbo 0) (zI 0 M27)))))))))) (zit (((G.2.2.2.2.2.2.2 (zix x4)) &&& 63) = 8) (zck (zin (x4 + 1) G.2.2.2.2.2.2.1) (zck (zin (x4 + 2) G.2.2.2.2.2.2.1) (zbI (F_L_may 0 (G.2.2.2.2.2.2.2 (zix (x4 + 1))) (G.2.2.2.2.2.2.2 (zix (x4 + 2))) 124 M) (fun r23 M29 => zck (zin (x4 + 1) G.2.2.2.2.2.2.1) (zck (zin (x4 + 2) G.2.2.2.2.2.2.1) (zbI (F_X12_may 79 (G.2.2.2.2.2.2.2 (zix (x4 + 1))) (G.2.2.2.2.2.2.2 (zix (x4 + 2))) M29) (fun r24 M30 => zbI (F_X12_thrown 79 M30) (fun r25 M31 => zit (r25 = r23) (zjo (fun  (M33 : zM) => k1 M33) (fun (k8 : zM → zO) => zit (r23 = 0) (zck (zin 0 1) (zjo (fun (w1 : Int64) (M32 : zM) => zit ((lg_cmp (zgA M31 124 (zix 0)) w1) = 0) (k8 M32) (zck (zbo 0) (zI 0 M32))) (fun (k9 : Int64 → zM → zO) => zit (r24 = 0) (k9 0 M31) (k9 1 M31)))) (k8 M31))) (zck (zbo 0) (zI 0 M31)))))))))) (zit (((G.2.2.2.2.2.2.2 (zix x4)) &&& 63) = 9) (zck (zin (x4 + 1) G.2.2.2.2.2.2.1) (zck (zin (x4 + 2) G.2.2.2.2.2.2.1) (zbI (F_L_swap 0 (G.2.2.2.2.2.2.2 (zix (x4 + 1))) (G.2.2.2.2.2.2.2 (zix (x4 + 2))) 124 M) (fun r26 M34 => zck (zin (x4 + 1) G.2.2.2.2.2.2.1) (zck (zin (x4 + 2) G.2.2.2.2.2.2.1) (zbI (F_X12_swap 79 (G.2.2.2.2.2.2.2 (zix (x4 + 1))) (G.2.2.2.2.2.2.2 (zix (x4 + 2))) M34) (fun r27 M35 => zbI (F_X12_thrown 79 M35) (fun r28 M36 => zit (r28 = r26) (zjo (fun  (M37 : zM) => k1 M37) (fun (k10 : zM → zO) => zit (r26 = 0) (zck (zin 0 1) (zit ((lg_cmp (zgA M36 124 (zix 0)) r27.toInt64) = 0) (k10 M36) (zck (zbo 0) (zI 0 M36)))) (k10 M36))) (zck (zbo 0) (zI 0 M36)))))))))) (zit (((G.2.2.2.2.2.2.2 (zix x4)) &&& 63) = 10) (zbI (F_X11_year 0 M) (fun r29 M38 => zbI (F_X12_year 79 M38) (fun r30 M39 => zit (r29 = r30) (k1 M39) (zck (zbo 0) (zI 0 M39))))) (zit (((G.2.2.2.2.2.2.2 (zix x4)) &&& 63) = 11) (zck (zin (x4 + 1) G.2.2.2.2.2.2.1) (zck (zin (x4 + 2) G.2.2.2.2.2.2.1) (zbI (F_L_forgive 0 (G.2.2.2.2.2.2.2 (zix (x4 + 1))) (G.2.2.2.2.2.2.2 (zix (x4 + 2))) 124 M) (fun r31 M40 => zck (zin (x4 + 1) G.2.2.2.2.2.2.1) (zck (zin (x4 + 2) G.2.2.2.2.2.2.1) (zbI (F_X12_forgive 79 (G.2.2.2.2.2.2.2 (zix (x4 + 1))) (G.2.2.2.2.2.2.2 (zix (x4 + 2))) M40) (fun r32 M41 => zbI (F_X12_thrown 79 M41) (fun r33 M42 => zit (r33 = r31) (zjo (fun  (M43 : zM) => k1 M43) (fun (k11 : zM → zO) => zit (r31 = 0) (zck (zin 0 1) (zit ((lg_cmp (zgA M42 124 (zix 0)) r32.toInt64) = 0) (k11 M42) (zck (zbo 0) (zI 0 M42)))) (k11 M42))) (zck (zbo 0) (zI 0 M42)))))))))) (zit (((G.2.2.2.2.2.2.2 (zix x4)) &&& 63) = 12) (zbI (F_X11_undo 0 M) (fun r34 M44 => zbI (F_X12_undo 79 M44) (fun r35 M45 => zit (r34 = r35) (k1 M45) (zck (zbo 0) (zI 0 M45))))) (zit (((G.2.2.2.2.2.2.2 (zix x4)) &&& 63) = 13) (zck (zin (x4 + 1) G.2.2.2.2.2.2.1) (zck (zin (x4 + 2) G.2.2.2.2.2.2.1) (zck (zin (x4 + 3) G.2.2.2.2.2.2.1) (zbI (F_L_prefers 0 (G.2.2.2.2.2.2.2 (zix (x4 + 1))) (G.2.2.2.2.2.2.2 (zix (x4 + 2))) (G.2.2.2.2.2.2.2 (zix (x4 + 3))) 124 M) (fun r36 M46 => zck (zin (x4 + 1) G.2.2.2.2.2.2.1) (zck (zin (x4 + 2) G.2.2.2.2.2.2.1) (zck (zin (x4 + 3) G.2.2.2.2.2.2.1) (zbI (F_X12_prefers 79 (G.2.2.2.2.2.2.2 (zix (x4 + 1))) (G.2.2.2.2.2.2.2 (zix (x4 + 2))) (G.2.2.2.2.2.2.2 (zix (x4 + 3))) M46) (fun r37 M47 => zbI (F_X12_thrown 79 M47) (fun r38 M48 => zit (r38 = r36) (zjo (fun  (M50 : zM) => k1 M50) (fun (k12 : zM → zO) => zit (r36 = 0) (zck (zin 0 1) (zjo (fun (w2 : Int64) (M49 : zM) => zit ((lg_cmp (zgA M48 124 (zix 0)) w2) = 0) (k12 M49) (zck (zbo 0) (zI 0 M49))) (fun (k13 : Int64 → zM → zO) => zit (r37 = 0) (k13 0 M48) (k13 1 M48)))) (k12 M48))) (zck (zbo 0) (zI 0 M48)))))))))))) (zit (((G.2.2.2.2.2.2.2 (zix x4)) &&& 63) = 14) (zck (zin (x4 + 1) G.2.2.2.2.2.2.1) (zbI (F_L_glad 0 (G.2.2.2.2.2.2.2 (zix (x4 + 1))) 124 M) (fun r39 M51 => zck (zin (x4 + 1) G.2.2.2.2.2.2.1) (zbI (F_X12_glad 79 (G.2.2.2.2.2.2.2 (zix (x4 + 1))) M51) (fun r40 M52 => zbI (F_X12_thrown 79 M52) (fun r41 M53 => zit (r41 = r39) (zjo (fun  (M54 : zM) => k1 M54) (fun (k14 : zM → zO) => zit (r39 = 0) (zck (zin 0 1) (zit ((lg_cmp (zgA M53 124 (zix 0)) r40.toInt64) = 0) (k14 M53) (zck (zbo 0) (zI 0 M53)))) (k14 M53))) (zck (zbo 0) (zI 0 M53)))))))) (zit (((G.2.2.2.2.2.2.2 (zix x4)) &&& 63) = 15) (zck (zin (x4 + 1) G.2.2.2.2.2.2.1) (zbI (F_L_round 0 (G.2.2.2.2.2.2.2 (zix (x4 + 1))) 124 M) (fun r42 M55 => zck (zin (x4 + 1) G.2.2.2.2.2.2.1) (zbI (F_X12_round 79 (G.2.2.2.2.2.2.2 (zix (x4 + 1))) M55) (fun r43 M56 => zbI (F_X12_thrown 79 M56) (fun r44 M57 => zit (r44 = r42) (zjo (fun  (M58 : zM) => k1 M58) (fun (k15 : zM → zO) => zit (r42 = 0) (zck (zin 0 1) (zit ((lg_cmp (zgA M57 124 (zix 0)) r43.toInt64) = 0) (k15 M57) (zck (zbo 0) (zI 0 M57)))) (k15 M57))) (zck (zbo 0) (zI 0 M57)))))))) (zit (((G.2.2.2.2.2.2.2 (zix x4)) &&& 63) = 16) (zbI (F_X11_leave 0 M) (fun r45 M59 => zbI (F_X12_leave 79 M59) (fun r46 M60 => zit (r45 = r46) (k1 M60) (zck (zbo 0) (zI 0 M60))))) (zit (((G.2.2.2.2.2.2.2 (zix x4)) &&& 63) = 17) (zck (zin (x4 + 1) G.2.2.2.2.2.2.1) (zck (zin (x4 + 2) G.2.2.2.2.2.2.1) (zbI (F_L_swaps 0 (G.2.2.2.2.2.2.2 (zix (x4 + 1))) (G.2.2.2.2.2.2.2 (zix (x4 + 2))) 124 M) (fun r47 M61 => zck (zin (x4 + 1) G.2.2.2.2.2.2.1) (zck (zin (x4 + 2) G.2.2.2.2.2.2.1) (zbI (F_X12_swaps 79 (G.2.2.2.2.2.2.2 (zix (x4 + 1))) (G.2.2.2.2.2.2.2 (zix (x4 + 2))) M61) (fun r48 M62 => zbI (F_X12_thrown 79 M62) (fun r49 M63 => zit (r49 = r47) (zjo (fun  (M64 : zM) => k1 M64) (fun (k16 : zM → zO) => zit (r47 = 0) (zck (zin 0 1) (zit ((lg_cmp (zgA M63 124 (zix 0)) r48.toInt64) = 0) (k16 M63) (zck (zbo 0) (zI 0 M63)))) (k16 M63))) (zck (zbo 0) (zI 0 M63)))))))))) (zit (((G.2.2.2.2.2.2.2 (zix x4)) &&& 63) = 18) (zck (zin (x4 + 1) G.2.2.2.2.2.2.1) (zck (zin (x4 + 2) G.2.2.2.2.2.2.1) (zck (zin (x4 + 3) G.2.2.2.2.2.2.1) (zbI (F_L_ship 0 (G.2.2.2.2.2.2.2 (zix (x4 + 1))) (G.2.2.2.2.2.2.2 (zix (x4 + 2))) (G.2.2.2.2.2.2.2 (zix (x4 + 3))) 124 M) (fun r50 M65 => zck (zin (x4 + 1) G.2.2.2.2.2.2.1) (zck (zin (x4 + 2) G.2.2.2.2.2.2.1) (zck (zin (x4 + 3) G.2.2.2.2.2.2.1) (zbI (F_X12_ship 79 (G.2.2.2.2.2.2.2 (zix (x4 + 1))) (G.2.2.2.2.2.2.2 (zix (x4 + 2))) (G.2.2.2.2.2.2.2 (zix (x4 + 3))) M65) (fun r51 M66 => zbI (F_X12_thrown 79 M66) (fun r52 M67 => zit (r52 = r50) (zjo (fun  (M68 : zM) => k1 M68) (fun (k17 : zM → zO) => zit (r50 = 0) (zck (zin 0 1) (zit ((lg_cmp (zgA M67 124 (zix 0)) r51.toInt64) = 0) (k17 M67) (zck (zbo 0) (zI 0 M67)))) (k17 M67))) (zck (zbo 0) (zI 0 M67)))))))))))) (zit (((G.2.2.2.2.2.2.2 (zix x4)) &&& 63) = 19) (zck (zin (x4 + 1) G.2.2.2.2.2.2.1) (zck (zin (x4 + 2) G.2.2.2.2.2.2.1) (zck (zin (x4 + 3) G.2.2.2.2.2.2.1) (zbI (F_L_joined 0 (G.2.2.2.2.2.2.2 (zix (x4 + 1))) (G.2.2.2.2.2.2.2 (zix (x4 + 2))) (G.2.2.2.2.2.2.2 (zix (x4 + 3))) 124 M) (fun r53 M69 => zck (zin (x4 + 1) G.2.2.2.2.2.2.1) (zck (zin (x4 + 2) G.2.2.2.2.2.2.1) (zck (zin (x4 + 3) G.2.2.2.2.2.2.1) (zbI (F_X12_joined 79 (G.2.2.2.2.2.2.2 (zix (x4 + 1))) (G.2.2.2.2.2.2.2 (zix (x4 + 2))) (G.2.2.2.2.2.2.2 (zix (x4 + 3))) M69) (fun r54 M70 => zbI (F_X12_thrown 79 M70) (fun r55 M71 => zit (r55 = r53) (zjo (fun  (M72 : zM) => k1 M72) (fun (k18 : zM → zO) => zit (r53 = 0) (zck (zin 0 1) (zit ((lg_cmp (zgA M71 124 (zix 0)) r54.toInt64) = 0) (k18 M71) (zck (zbo 0) (zI 0 M71)))) (k18 M71))) (zck (zbo 0) (zI 0 M71)))))))))))) (zit (((G.2.2.2.2.2.2.2 (zix x4)) &&& 63) = 20) (zck (zin (x4 + 1) G.2.2.2.2.2.2.1) (zck (zin (x4 + 2) G.2.2.2.2.2.2.1) (zbI (F_L_inside 0 (G.2.2.2.2.2.2.2 (zix (x4 + 1))) (G.2.2.2.2.2.2.2 (zix (x4 + 2))) 124 M) (fun r56 M73 => zck (zin (x4 + 1) G.2.2.2.2.2.2.1) (zck (zin (x4 + 2) G.2.2.2.2.2.2.1) (zbI (F_X12_inside 79 (G.2.2.2.2.2.2.2 (zix (x4 + 1))) (G.2.2.2.2.2.2.2 (zix (x4 + 2))) M73) (fun r57 M74 => zbI (F_X12_thrown 79 M74) (fun r58 M75 => zit (r58 = r56) (zjo (fun  (M77 : zM) => k1 M77) (fun (k19 : zM → zO) => zit (r56 = 0) (zck (zin 0 1) (zjo (fun (w3 : Int64) (M76 : zM) => zit ((lg_cmp (zgA M75 124 (zix 0)) w3) = 0) (k19 M76) (zck (zbo 0) (zI 0 M76))) (fun (k20 : Int64 → zM → zO) => zit (r57 = 0) (k20 0 M75) (k20 1 M75)))) (k19 M75))) (zck (zbo 0) (zI 0 M75)))))))))) (zit (((G.2.2.2.2.2.2.2 (zix x4)) &&& 63) = 21) (zck (zin (x4 + 1) G.2.2.2.2.2.2.1) (zck (zin (x4 + 2) G.2.2.2.2.2.2.1) (zbI (F_L_shortest 0 (G.2.2.2.2.2.2.2 (zix (x4 + 1))) (G.2.2.2.2.2.2.2 (zix (x4 + 2))) 124 M) (fun r59 M78 => zck (zin (x4 + 1) G.2.2.2.2.2.2.1) (zck (zin (x4 + 2) G.2.2.2.2.2.2.1) (zbI (F_X12_shortest 79 (G.2.2.2.2.2.2.2 (zix (x4 + 1))) (G.2.2.2.2.2.2.2 (zix (x4 + 2))) M78) (fun r60 M79 => zbI (F_X12_thrown 79 M79) (fun r61 M80 => zit (r61 = r59) (zjo (fun  (M81 : zM) => k1 M81) (fun (k21 : zM → zO) => zit (r59 = 0) (zck (zin 0 1) (zit ((lg_cmp (zgA M80 124 (zix 0)) r60.toInt64) = 0) (k21 M80) (zck (zbo 0) (zI 0 M80)))) (k21 M80))) (zck (zbo 0) (zI 0 M80)))))))))) (zit (((G.2.2.2.2.2.2.2 (zix x4)) &&& 63) = 22) (zck (zin (x4 + 1) G.2.2.2.2.2.2.1) (zck (zin (x4 + 2) G.2.2.2.2.2.2.1) (zck (zin (x4 + 3) G.2.2.2.2.2.2.1) (zbI (F_L_worn 0 (G.2.2.2.2.2.2.2 (zix (x4 + 1))) (G.2.2.2.2.2.2.2 (zix (x4 + 2))) (G.2.2.2.2.2.2.2 (zix (x4 + 3))) 124 M) (fun r62 M82 => zck (zin (x4 + 1) G.2.2.2.2.2.2.1) (zck (zin (x4 + 2) G.2.2.2.2.2.2.1) (zck (zin (x4 + 3) G.2.2.2.2.2.2.1) (zbI (F_X12_worn 79 (G.2.2.2.2.2.2.2 (zix (x4 + 1))) (G.2.2.2.2.2.2.2 (zix (x4 + 2))) (G.2.2.2.2.2.2.2 (zix (x4 + 3))) M82) (fun r63 M83 => zbI (F_X12_thrown 79 M83) (fun r64 M84 => zit (r64 = r62) (zjo (fun  (M85 : zM) => k1 M85) (fun (k22 : zM → zO) => zit (r62 = 0) (zck (zin 0 1) (zit ((lg_cmp (zgA M84 124 (zix 0)) r63.toInt64) = 0) (k22 M84) (zck (zbo 0) (zI 0 M84)))) (k22 M84))) (zck (zbo 0) (zI 0 M84)))))))))))) (zit (((G.2.2.2.2.2.2.2 (zix x4)) &&& 63) = 23) (zck (zin (x4 + 1) G.2.2.2.2.2.2.1) (zbI (F_L_tide 0 (G.2.2.2.2.2.2.2 (zix (x4 + 1))) 124 M) (fun r65 M86 => zck (zin (x4 + 1) G.2.2.2.2.2.2.1) (zbI (F_X12_tide 79 (G.2.2.2.2.2.2.2 (zix (x4 + 1))) M86) (fun r66 M87 => zbI (F_X12_thrown 79 M87) (fun r67 M88 => zit (r67 = r65) (zjo (fun  (M89 : zM) => k1 M89) (fun (k23 : zM → zO) => zit (r65 = 0) (zck (zin 0 1) (zit ((lg_cmp (zgA M88 124 (zix 0)) r66.toInt64) = 0) (k23 M88) (zck (zbo 0) (zI 0 M88)))) (k23 M88))) (zck (zbo 0) (zI 0 M88)))))))) (zit (((G.2.2.2.2.2.2.2 (zix x4)) &&& 63) = 24) (zck (zin (x4 + 1) G.2.2.2.2.2.2.1) (zck (zin (x4 + 2) G.2.2.2.2.2.2.1) (zbI (F_L_lies 0 (G.2.2.2.2.2.2.2 (zix (x4 + 1))) (G.2.2.2.2.2.2.2 (zix (x4 + 2))) 124 M) (fun r68 M90 => zck (zin (x4 + 1) G.2.2.2.2.2.2.1) (zck (zin (x4 + 2) G.2.2.2.2.2.2.1) (zbI (F_X12_lies 79 (G.2.2.2.2.2.2.2 (zix (x4 + 1))) (G.2.2.2.2.2.2.2 (zix (x4 + 2))) M90) (fun r69 M91 => zbI (F_X12_thrown 79 M91) (fun r70 M92 => zit (r70 = r68) (zjo (fun  (M93 : zM) => k1 M93) (fun (k24 : zM → zO) => zit (r68 = 0) (zck (zin 0 1) (zit ((lg_cmp (zgA M92 124 (zix 0)) r69.toInt64) = 0) (k24 M92) (zck (zbo 0) (zI 0 M92)))) (k24 M92))) (zck (zbo 0) (zI 0 M92)))))))))) (zit (((G.2.2.2.2.2.2.2 (zix x4)) &&& 63) = 25) (zck (zin (x4 + 1) G.2.2.2.2.2.2.1) (zck (zin (x4 + 2) G.2.2.2.2.2.2.1) (zbI (F_L_see 0 (G.2.2.2.2.2.2.2 (zix (x4 + 1))) (G.2.2.2.2.2.2.2 (zix (x4 + 2))) 124 M) (fun r71 M94 => zck (zin (x4 + 1) G.2.2.2.2.2.2.1) (zck (zin (x4 + 2) G.2.2.2.2.2.2.1) (zbI (F_X12_see 79 (G.2.2.2.2.2.2.2 (zix (x4 + 1))) (G.2.2.2.2.2.2.2 (zix (x4 + 2))) M94) (fun r72 M95 => zbI (F_X12_thrown 79 M95) (fun r73 M96 => zit (r73 = r71) (zjo (fun  (M97 : zM) => k1 M97) (fun (k25 : zM → zO) => zit (r71 = 0) (zck (zin 0 1) (zit ((lg_cmp (zgA M96 124 (zix 0)) r72.toInt64) = 0) (k25 M96) (zck (zbo 0) (zI 0 M96)))) (k25 M96))) (zck (zbo 0) (zI 0 M96)))))))))) (zit (((G.2.2.2.2.2.2.2 (zix x4)) &&& 63) = 26) (zbV (F_X11_forget 0 M) (fun M98 => zbV (F_X12_forget 79 M98) (fun M99 => k1 M99))) (zit (((G.2.2.2.2.2.2.2 (zix x4)) &&& 63) = 27) (zck (zin (x4 + 1) G.2.2.2.2.2.2.1) (zck (zin (x4 + 2) G.2.2.2.2.2.2.1) (zbI (F_L_sales 0 (G.2.2.2.2.2.2.2 (zix (x4 + 1))) (G.2.2.2.2.2.2.2 (zix (x4 + 2))) 124 M) (fun r74 M100 => zck (zin (x4 + 1) G.2.2.2.2.2.2.1) (zck (zin (x4 + 2) G.2.2.2.2.2.2.1) (zbI (F_X12_sales 79 (G.2.2.2.2.2.2.2 (zix (x4 + 1))) (G.2.2.2.2.2.2.2 (zix (x4 + 2))) M100) (fun r75 M101 => zbI (F_X12_thrown 79 M101) (fun r76 M102 => zit (r76 = r74) (zjo (fun  (M103 : zM) => k1 M103) (fun (k26 : zM → zO) => zit (r74 = 0) (zck (zin 0 1) (zit ((lg_cmp (zgA M102 124 (zix 0)) r75.toInt64) = 0) (k26 M102) (zck (zbo 0) (zI 0 M102)))) (k26 M102))) (zck (zbo 0) (zI 0 M102)))))))))) (zit (((G.2.2.2.2.2.2.2 (zix x4)) &&& 63) = 28) (zck (zin (x4 + 1) G.2.2.2.2.2.2.1) (zbI (F_L_look 0 (G.2.2.2.2.2.2.2 (zix (x4 + 1))) 124 M) (fun r77 M104 => zck (zin (x4 + 1) G.2.2.2.2.2.2.1) (zbI (F_X12_look 79 (G.2.2.2.2.2.2.2 (zix (x4 + 1))) M104) (fun r78 M105 => zbI (F_X12_thrown 79 M105) (fun r79 M106 => zit (r79 = r77) (zjo (fun  (M107 : zM) => k1 M107) (fun (k27 : zM → zO) => zit (r77 = 0) (zck (zin 0 1) (zit ((lg_cmp (zgA M106 124 (zix 0)) r78.toInt64) = 0) (k27 M106) (zck (zbo 0) (zI 0 M106)))) (k27 M106))) (zck (zbo 0) (zI 0 M106)))))))) (zit (((G.2.2.2.2.2.2.2 (zix x4)) &&& 63) = 29) (zck (zin (x4 + 1) G.2.2.2.2.2.2.1) (zck (zin (x4 + 2) G.2.2.2.2.2.2.1) (zck (zin (x4 + 3) G.2.2.2.2.2.2.1) (zbI (F_L_clerks 0 (G.2.2.2.2.2.2.2 (zix (x4 + 1))) (G.2.2.2.2.2.2.2 (zix (x4 + 2))) (G.2.2.2.2.2.2.2 (zix (x4 + 3))) 124 M) (fun r80 M108 => zck (zin (x4 + 1) G.2.2.2.2.2.2.1) (zck (zin (x4 + 2) G.2.2.2.2.2.2.1) (zck (zin (x4 + 3) G.2.2.2.2.2.2.1) (zbI (F_X12_clerks 79 (G.2.2.2.2.2.2.2 (zix (x4 + 1))) (G.2.2.2.2.2.2.2 (zix (x4 + 2))) (G.2.2.2.2.2.2.2 (zix (x4 + 3))) M108) (fun r81 M109 => zbI (F_X12_thrown 79 M109) (fun r82 M110 => zit (r82 = r80) (zjo (fun  (M111 : zM) => k1 M111) (fun (k28 : zM → zO) => zit (r80 = 0) (zck (zin 0 1) (zit ((lg_cmp (zgA M110 124 (zix 0)) r81.toInt64) = 0) (k28 M110) (zck (zbo 0) (zI 0 M110)))) (k28 M110))) (zck (zbo 0) (zI 0 M110)))))))))))) (zit (((G.2.2.2.2.2.2.2 (zix x4)) &&& 63) = 30) (zck (zin (x4 + 1) G.2.2.2.2.2.2.1) (zck (zin (x4 + 2) G.2.2.2.2.2.2.1) (zck (zin (x4 + 3) G.2.2.2.2.2.2.1) (zbI (F_L_century 0 (G.2.2.2.2.2.2.2 (zix (x4 + 1))) (G.2.2.2.2.2.2.2 (zix (x4 + 2))) (G.2.2.2.2.2.2.2 (zix (x4 + 3))) 124 M) (fun r83 M112 => zck (zin (x4 + 1) G.2.2.2.2.2.2.1) (zck (zin (x4 + 2) G.2.2.2.2.2.2.1) (zck (zin (x4 + 3) G.2.2.2.2.2.2.1) (zbI (F_X12_century 79 (G.2.2.2.2.2.2.2 (zix (x4 + 1))) (G.2.2.2.2.2.2.2 (zix (x4 + 2))) (G.2.2.2.2.2.2.2 (zix (x4 + 3))) M112) (fun r84 M113 => zbI (F_X12_thrown 79 M113) (fun r85 M114 => zit (r85 = r83) (zjo (fun  (M115 : zM) => k1 M115) (fun (k29 : zM → zO) => zit (r83 = 0) (zck (zin 0 1) (zit ((lg_cmp (zgA M114 124 (zix 0)) r84.toInt64) = 0) (k29 M114) (zck (zbo 0) (zI 0 M114)))) (k29 M114))) (zck (zbo 0) (zI 0 M114)))))))))))) (zit (((G.2.2.2.2.2.2.2 (zix x4)) &&& 63) = 31) (zck (zin (x4 + 1) G.2.2.2.2.2.2.1) (zck (zin (x4 + 2) G.2.2.2.2.2.2.1) (zck (zin (x4 + 3) G.2.2.2.2.2.2.1) (zbI (F_L_weather 0 (G.2.2.2.2.2.2.2 (zix (x4 + 1))) (G.2.2.2.2.2.2.2 (zix (x4 + 2))) (G.2.2.2.2.2.2.2 (zix (x4 + 3))) 124 M) (fun r86 M116 => zck (zin (x4 + 1) G.2.2.2.2.2.2.1) (zck (zin (x4 + 2) G.2.2.2.2.2.2.1) (zck (zin (x4 + 3) G.2.2.2.2.2.2.1) (zbI (F_X12_weather 79 (G.2.2.2.2.2.2.2 (zix (x4 + 1))) (G.2.2.2.2.2.2.2 (zix (x4 + 2))) (G.2.2.2.2.2.2.2 (zix (x4 + 3))) M116) (fun r87 M117 => zbI (F_X12_thrown 79 M117) (fun r88 M118 => zit (r88 = r86) (zjo (fun  (M119 : zM) => k1 M119) (fun (k30 : zM → zO) => zit (r86 = 0) (zck (zin 0 1) (zit ((lg_cmp (zgA M118 124 (zix 0)) r87.toInt64) = 0) (k30 M118) (zck (zbo 0) (zI 0 M118)))) (k30 M118))) (zck (zbo 0) (zI 0 M118)))))))))))) (zit (((G.2.2.2.2.2.2.2 (zix x4)) &&& 63) = 32) (zck (zin (x4 + 1) G.2.2.2.2.2.2.1) (zbI (F_L_owed 0 (G.2.2.2.2.2.2.2 (zix (x4 + 1))) 124 M) (fun r89 M120 => zck (zin (x4 + 1) G.2.2.2.2.2.2.1) (zbI (F_X12_owed 79 (G.2.2.2.2.2.2.2 (zix (x4 + 1))) M120) (fun r90 M121 => zbI (F_X12_thrown 79 M121) (fun r91 M122 => zit (r91 = r89) (zjo (fun  (M123 : zM) => k1 M123) (fun (k31 : zM → zO) => zit (r89 = 0) (zck (zin 0 1) (zit ((lg_cmp (zgA M122 124 (zix 0)) r90.toInt64) = 0) (k31 M122) (zck (zbo 0) (zI 0 M122)))) (k31 M122))) (zck (zbo 0) (zI 0 M122)))))))) (zit (((G.2.2.2.2.2.2.2 (zix x4)) &&& 63) = 33) (zck (zin (x4 + 1) G.2.2.2.2.2.2.1) (zbI (F_L_caravan 0 (G.2.2.2.2.2.2.2 (zix (x4 + 1))) 124 M) (fun r92 M124 => zck (zin (x4 + 1) G.2.2.2.2.2.2.1) (zbI (F_X12_caravan 79 (G.2.2.2.2.2.2.2 (zix (x4 + 1))) M124) (fun r93 M125 => zbI (F_X12_thrown 79 M125) (fun r94 M126 => zit (r94 = r92) (zjo (fun  (M127 : zM) => k1 M127) (fun (k32 : zM → zO) => zit (r92 = 0) (zck (zin 0 1) (zit ((lg_cmp (zgA M126 124 (zix 0)) r93.toInt64) = 0) (k32 M126) (zck (zbo 0) (zI 0 M126)))) (k32 M126))) (zck (zbo 0) (zI 0 M126)))))))) (zit (((G.2.2.2.2.2.2.2 (zix x4)) &&& 63) = 34) (zbV (F_X11_image 0 M) (fun M128 => zbV (F_X12_image 79 M128) (fun M129 => k1 M129))) (zit (((G.2.2.2.2.2.2.2 (zix x4)) &&& 63) = 35) (zbI (F_X11_restore 0 M) (fun r95 M130 => zbI (F_X12_restore 79 M130) (fun r96 M131 => zit (r95 = r96) (k1 M131) (zck (zbo 0) (zI 0 M131))))) (k1 M))))))))))))))))))))))))))))))))))))))))
    refine ev_iload dd_L_law_23 4 rfl ?_
    refine ev_aload_n dd_L_law_25 0 rfl ?_
    refine ev_slc dd_L_law_26 ?_
    refine ev_bipush (v := 6) dd_L_law_27 (by decide) ?_
    refine ev_isub dd_L_law_29 ?_
    refine ev_icmp_gt 2267 dd_L_law_30 (by decide) ?_ ?_
    · refine ev_lv (lv' := []) [] rfl ?_
      refine ev_iconst (v := 1) dd_L_law_2267 (by decide) ?_
      exact ev_zret dd_L_law_2268 rfl (by show w + 0 ≤ 2100; omega) rfl
    · refine ev_aload_n dd_L_law_33 0 rfl ?_
      refine ev_iload dd_L_law_34 4 rfl ?_
      refine ev_sld dd_L_law_36 ?_
      refine ev_bipush (v := 63) dd_L_law_37 (by decide) ?_
      refine ev_iand dd_L_law_39 ?_
      refine ev_jo (fun (k1 : zM → zO) => ∀  (M132 : zM), zEv l G Y_L_law 200 (w + 4) 2261 [(0, .ref G.2.2.2.2.2.1), (1, .ref (G.2.1 + 0)), (2, .ref (G.2.1 + 79)), (3, .ref (G.2.1 + 124)), (4, .int x4)] [] M132 (k1 M132)) ?_ (fun k1 hk1 => ?_)
      · intro M132
        refine ev_iinc (j := 4) (v := 6) (lv' := [(0, .ref G.2.2.2.2.2.1), (1, .ref (G.2.1 + 0)), (2, .ref (G.2.1 + 79)), (3, .ref (G.2.1 + 124)), (4, .int (x4 + 6))]) [1, 2, 3, 4, 0] dd_L_law_2261 rfl (by decide) (by decide) rfl ?_
        refine ev_goto 23 dd_L_law_2264 (by decide) ?_
        refine ev_u (u' := w + 4) (by show w + 4 ≤ w + 4; omega) ?_
        exact ih (w + 4) (by omega) _ _
      · refine ev_it (fun hs1 => ?_) (fun hs1 => ?_)
        · refine ev_tabIn (off := 160) (tgt := 200) dd_L_law_40 0 hs1 (by decide +kernel) ?_
          refine ev_aload_n dd_L_law_200 1 rfl ?_
          refine ev_aload_n dd_L_law_201 0 rfl ?_
          refine ev_iload dd_L_law_202 4 rfl ?_
          refine ev_iconst (v := 1) dd_L_law_204 (by decide) ?_
          refine ev_iadd dd_L_law_205 ?_
          refine ev_sld dd_L_law_206 ?_
          refine ev_aload_n dd_L_law_207 0 rfl ?_
          refine ev_iload dd_L_law_208 4 rfl ?_
          refine ev_iconst (v := 2) dd_L_law_210 (by decide) ?_
          refine ev_iadd dd_L_law_211 ?_
          refine ev_sld dd_L_law_212 ?_
          refine ev_aload_n dd_L_law_213 0 rfl ?_
          refine ev_iload dd_L_law_214 4 rfl ?_
          refine ev_iconst (v := 3) dd_L_law_216 (by decide) ?_
          refine ev_iadd dd_L_law_217 ?_
          refine ev_sld dd_L_law_218 ?_
          refine ev_aload_n dd_L_law_219 0 rfl ?_
          refine ev_iload dd_L_law_220 4 rfl ?_
          refine ev_iconst (v := 4) dd_L_law_222 (by decide) ?_
          refine ev_iadd dd_L_law_223 ?_
          refine ev_sld dd_L_law_224 ?_
          refine ev_aload_n dd_L_law_225 0 rfl ?_
          refine ev_iload dd_L_law_226 4 rfl ?_
          refine ev_iconst (v := 5) dd_L_law_228 (by decide) ?_
          refine ev_iadd dd_L_law_229 ?_
          refine ev_sld dd_L_law_230 ?_
          refine ev_callVI (As := [.int (G.2.2.2.2.2.2.2 (zix (x4 + 1))), .int (G.2.2.2.2.2.2.2 (zix (x4 + 2))), .int (G.2.2.2.2.2.2.2 (zix (x4 + 3))), .int (G.2.2.2.2.2.2.2 (zix (x4 + 4))), .int (G.2.2.2.2.2.2.2 (zix (x4 + 5)))]) cl_RL_106 (ct_X11_feed l hl G 0 zs_0 (G.2.2.2.2.2.2.2 (zix (x4 + 1))) (G.2.2.2.2.2.2.2 (zix (x4 + 2))) (G.2.2.2.2.2.2.2 (zix (x4 + 3))) (G.2.2.2.2.2.2.2 (zix (x4 + 4))) (G.2.2.2.2.2.2.2 (zix (x4 + 5))) M) dd_L_law_231 zs_0 (by decide) (by show w + 0 ≤ 2100; omega) (Nat.le_of_ble_eq_true rfl) rfl rfl (fun r1 M1 => ?_)
          refine ev_aload_n dd_L_law_234 2 rfl ?_
          refine ev_aload_n dd_L_law_235 0 rfl ?_
          refine ev_iload dd_L_law_236 4 rfl ?_
          refine ev_iconst (v := 1) dd_L_law_238 (by decide) ?_
          refine ev_iadd dd_L_law_239 ?_
          refine ev_sld dd_L_law_240 ?_
          refine ev_aload_n dd_L_law_241 0 rfl ?_
          refine ev_iload dd_L_law_242 4 rfl ?_
          refine ev_iconst (v := 2) dd_L_law_244 (by decide) ?_
          refine ev_iadd dd_L_law_245 ?_
          refine ev_sld dd_L_law_246 ?_
          refine ev_aload_n dd_L_law_247 0 rfl ?_
          refine ev_iload dd_L_law_248 4 rfl ?_
          refine ev_iconst (v := 3) dd_L_law_250 (by decide) ?_
          refine ev_iadd dd_L_law_251 ?_
          refine ev_sld dd_L_law_252 ?_
          refine ev_aload_n dd_L_law_253 0 rfl ?_
          refine ev_iload dd_L_law_254 4 rfl ?_
          refine ev_iconst (v := 4) dd_L_law_256 (by decide) ?_
          refine ev_iadd dd_L_law_257 ?_
          refine ev_sld dd_L_law_258 ?_
          refine ev_aload_n dd_L_law_259 0 rfl ?_
          refine ev_iload dd_L_law_260 4 rfl ?_
          refine ev_iconst (v := 5) dd_L_law_262 (by decide) ?_
          refine ev_iadd dd_L_law_263 ?_
          refine ev_sld dd_L_law_264 ?_
          refine ev_callVI (As := [.int (G.2.2.2.2.2.2.2 (zix (x4 + 1))), .int (G.2.2.2.2.2.2.2 (zix (x4 + 2))), .int (G.2.2.2.2.2.2.2 (zix (x4 + 3))), .int (G.2.2.2.2.2.2.2 (zix (x4 + 4))), .int (G.2.2.2.2.2.2.2 (zix (x4 + 5)))]) cl_RL_110 (ct_X12_feed l hl G 79 zs_79 (G.2.2.2.2.2.2.2 (zix (x4 + 1))) (G.2.2.2.2.2.2.2 (zix (x4 + 2))) (G.2.2.2.2.2.2.2 (zix (x4 + 3))) (G.2.2.2.2.2.2.2 (zix (x4 + 4))) (G.2.2.2.2.2.2.2 (zix (x4 + 5))) M1) dd_L_law_265 zs_79 (by decide) (by show w + 0 ≤ 2100; omega) (Nat.le_of_ble_eq_true rfl) rfl rfl (fun r2 M2 => ?_)
          refine ev_icmp_eq 2261 dd_L_law_268 (by decide) ?_ ?_
          · refine ev_u (u' := w + 4) (by show w + 0 ≤ w + 4; omega) ?_
            exact hk1 _
          · refine ev_lv (lv' := [(0, .ref G.2.2.2.2.2.1), (1, .ref (G.2.1 + 0)), (2, .ref (G.2.1 + 79)), (3, .ref (G.2.1 + 124))]) [0, 1, 2, 3] rfl ?_
            refine ev_iconst (v := 0) dd_L_law_271 (by decide) ?_
            exact ev_zret dd_L_law_272 rfl (by show w + 0 ≤ 2100; omega) rfl
        refine ev_it (fun hs2 => ?_) (fun hs2 => ?_)
        · refine ev_tabIn (off := 233) (tgt := 273) dd_L_law_40 1 hs2 (by decide +kernel) ?_
          refine ev_aload_n dd_L_law_273 1 rfl ?_
          refine ev_aload_n dd_L_law_274 0 rfl ?_
          refine ev_iload dd_L_law_275 4 rfl ?_
          refine ev_iconst (v := 1) dd_L_law_277 (by decide) ?_
          refine ev_iadd dd_L_law_278 ?_
          refine ev_sld dd_L_law_279 ?_
          refine ev_aload_n dd_L_law_280 3 rfl ?_
          refine ev_callHI (u' := (w + 1)) (As := [.ref (G.2.1 + 0), .int (G.2.2.2.2.2.2.2 (zix (x4 + 1))), .ref (G.2.1 + 124)]) cl_RL_111 (ct_L_sea l hl G 0 zs_0 (G.2.2.2.2.2.2.2 (zix (x4 + 1))) 124 zs_124 M) dd_L_law_281 (by decide) rfl (by show w + 1 ≤ 2100; omega) (Nat.le_of_ble_eq_true rfl) rfl rfl (fun r3 M3 => ?_)
          refine ev_istore (i := 5) (lv' := [(0, .ref G.2.2.2.2.2.1), (1, .ref (G.2.1 + 0)), (2, .ref (G.2.1 + 79)), (3, .ref (G.2.1 + 124)), (4, .int x4), (5, .int r3)]) [1, 2, 3, 4, 5, 0] dd_L_law_284 (by decide) rfl ?_
          refine ev_aload_n dd_L_law_286 2 rfl ?_
          refine ev_aload_n dd_L_law_287 0 rfl ?_
          refine ev_iload dd_L_law_288 4 rfl ?_
          refine ev_iconst (v := 1) dd_L_law_290 (by decide) ?_
          refine ev_iadd dd_L_law_291 ?_
          refine ev_sld dd_L_law_292 ?_
          refine ev_callVI (As := [.int (G.2.2.2.2.2.2.2 (zix (x4 + 1)))]) cl_RL_116 (ct_X12_sea l hl G 79 zs_79 (G.2.2.2.2.2.2.2 (zix (x4 + 1))) M3) dd_L_law_293 zs_79 (by decide) (by show w + 1 ≤ 2100; omega) (Nat.le_of_ble_eq_true rfl) rfl rfl (fun r4 M4 => ?_)
          refine ev_istore (i := 6) (lv' := [(0, .ref G.2.2.2.2.2.1), (1, .ref (G.2.1 + 0)), (2, .ref (G.2.1 + 79)), (3, .ref (G.2.1 + 124)), (4, .int x4), (5, .int r3), (6, .int r4)]) [1, 2, 3, 4, 5, 6, 0] dd_L_law_296 (by decide) rfl ?_
          refine ev_aload_n dd_L_law_298 2 rfl ?_
          refine ev_callVI (As := []) cl_RL_117 (ct_X12_thrown l hl G 79 zs_79 M4) dd_L_law_299 zs_79 (by decide) (by show w + 1 ≤ 2100; omega) (Nat.le_of_ble_eq_true rfl) rfl rfl (fun r5 M5 => ?_)
          refine ev_iload dd_L_law_302 5 rfl ?_
          refine ev_icmp_eq 309 dd_L_law_304 (by decide) ?_ ?_
          · refine ev_iload dd_L_law_309 5 rfl ?_
            refine ev_lv (lv' := [(0, .ref G.2.2.2.2.2.1), (1, .ref (G.2.1 + 0)), (2, .ref (G.2.1 + 79)), (3, .ref (G.2.1 + 124)), (4, .int x4), (6, .int r4)]) [0, 1, 2, 3, 4, 6] rfl ?_
            refine ev_jo (fun (k2 : zM → zO) => ∀  (M6 : zM), zEv l G Y_L_law 200 (w + 1) 326 [(0, .ref G.2.2.2.2.2.1), (1, .ref (G.2.1 + 0)), (2, .ref (G.2.1 + 79)), (3, .ref (G.2.1 + 124)), (4, .int x4)] [] M6 (k2 M6)) ?_ (fun k2 hk2 => ?_)
            · intro M6
              refine ev_goto 2261 dd_L_law_326 (by decide) ?_
              refine ev_u (u' := w + 4) (by show w + 1 ≤ w + 4; omega) ?_
              exact hk1 _
            · refine ev_if_ne 326 dd_L_law_311 (by decide) ?_ ?_
              · refine ev_lv (lv' := [(0, .ref G.2.2.2.2.2.1), (1, .ref (G.2.1 + 0)), (2, .ref (G.2.1 + 79)), (3, .ref (G.2.1 + 124)), (4, .int x4)]) [0, 1, 2, 3, 4] rfl ?_
                exact hk2 _
              · refine ev_aload_n dd_L_law_314 3 rfl ?_
                refine ev_iconst (v := 0) dd_L_law_315 (by decide) ?_
                refine ev_lald dd_L_law_316 zs_124 za_124 ?_
                refine ev_iload dd_L_law_317 5 rfl ?_
                refine ev_lv (lv' := [(0, .ref G.2.2.2.2.2.1), (1, .ref (G.2.1 + 0)), (2, .ref (G.2.1 + 79)), (3, .ref (G.2.1 + 124)), (4, .int x4)]) [0, 1, 2, 3, 4] rfl ?_
                refine ev_i2l dd_L_law_319 ?_
                refine ev_lcmp dd_L_law_320 ?_
                refine ev_if_eq 326 dd_L_law_321 (by decide) ?_ ?_
                · exact hk2 _
                · refine ev_lv (lv' := [(0, .ref G.2.2.2.2.2.1), (1, .ref (G.2.1 + 0)), (2, .ref (G.2.1 + 79)), (3, .ref (G.2.1 + 124))]) [0, 1, 2, 3] rfl ?_
                  refine ev_iconst (v := 0) dd_L_law_324 (by decide) ?_
                  exact ev_zret dd_L_law_325 rfl (by show w + 1 ≤ 2100; omega) rfl
          · refine ev_lv (lv' := [(0, .ref G.2.2.2.2.2.1), (1, .ref (G.2.1 + 0)), (2, .ref (G.2.1 + 79)), (3, .ref (G.2.1 + 124))]) [0, 1, 2, 3] rfl ?_
            refine ev_iconst (v := 0) dd_L_law_307 (by decide) ?_
            exact ev_zret dd_L_law_308 rfl (by show w + 1 ≤ 2100; omega) rfl
        refine ev_it (fun hs3 => ?_) (fun hs3 => ?_)
        · refine ev_tabIn (off := 289) (tgt := 329) dd_L_law_40 2 hs3 (by decide +kernel) ?_
          refine ev_aload_n dd_L_law_329 1 rfl ?_
          refine ev_callVI (As := []) cl_RL_121 (ct_X11_fault l hl G 0 zs_0 M) dd_L_law_330 zs_0 (by decide) (by show w + 0 ≤ 2100; omega) (Nat.le_of_ble_eq_true rfl) rfl rfl (fun r6 M7 => ?_)
          refine ev_aload_n dd_L_law_333 2 rfl ?_
          refine ev_callVI (As := []) cl_RL_124 (ct_X12_fault l hl G 79 zs_79 M7) dd_L_law_334 zs_79 (by decide) (by show w + 0 ≤ 2100; omega) (Nat.le_of_ble_eq_true rfl) rfl rfl (fun r7 M8 => ?_)
          refine ev_icmp_eq 2261 dd_L_law_337 (by decide) ?_ ?_
          · refine ev_u (u' := w + 4) (by show w + 0 ≤ w + 4; omega) ?_
            exact hk1 _
          · refine ev_lv (lv' := [(0, .ref G.2.2.2.2.2.1), (1, .ref (G.2.1 + 0)), (2, .ref (G.2.1 + 79)), (3, .ref (G.2.1 + 124))]) [0, 1, 2, 3] rfl ?_
            refine ev_iconst (v := 0) dd_L_law_340 (by decide) ?_
            exact ev_zret dd_L_law_341 rfl (by show w + 0 ≤ 2100; omega) rfl
        refine ev_it (fun hs4 => ?_) (fun hs4 => ?_)
        · refine ev_tabIn (off := 302) (tgt := 342) dd_L_law_40 3 hs4 (by decide +kernel) ?_
          refine ev_aload_n dd_L_law_342 1 rfl ?_
          refine ev_aload_n dd_L_law_343 0 rfl ?_
          refine ev_iload dd_L_law_344 4 rfl ?_
          refine ev_iconst (v := 1) dd_L_law_346 (by decide) ?_
          refine ev_iadd dd_L_law_347 ?_
          refine ev_sld dd_L_law_348 ?_
          refine ev_aload_n dd_L_law_349 3 rfl ?_
          refine ev_callHI (u' := (w + 1)) (As := [.ref (G.2.1 + 0), .int (G.2.2.2.2.2.2.2 (zix (x4 + 1))), .ref (G.2.1 + 124)]) cl_RL_125 (ct_L_count l hl G 0 zs_0 (G.2.2.2.2.2.2.2 (zix (x4 + 1))) 124 zs_124 M) dd_L_law_350 (by decide) rfl (by show w + 1 ≤ 2100; omega) (Nat.le_of_ble_eq_true rfl) rfl rfl (fun r8 M9 => ?_)
          refine ev_istore (i := 5) (lv' := [(0, .ref G.2.2.2.2.2.1), (1, .ref (G.2.1 + 0)), (2, .ref (G.2.1 + 79)), (3, .ref (G.2.1 + 124)), (4, .int x4), (5, .int r8)]) [1, 2, 3, 4, 5, 0] dd_L_law_353 (by decide) rfl ?_
          refine ev_aload_n dd_L_law_355 2 rfl ?_
          refine ev_aload_n dd_L_law_356 0 rfl ?_
          refine ev_iload dd_L_law_357 4 rfl ?_
          refine ev_iconst (v := 1) dd_L_law_359 (by decide) ?_
          refine ev_iadd dd_L_law_360 ?_
          refine ev_sld dd_L_law_361 ?_
          refine ev_callVI (As := [.int (G.2.2.2.2.2.2.2 (zix (x4 + 1)))]) cl_RL_127 (ct_X12_count l hl G 79 zs_79 (G.2.2.2.2.2.2.2 (zix (x4 + 1))) M9) dd_L_law_362 zs_79 (by decide) (by show w + 1 ≤ 2100; omega) (Nat.le_of_ble_eq_true rfl) rfl rfl (fun r9 M10 => ?_)
          refine ev_istore (i := 6) (lv' := [(0, .ref G.2.2.2.2.2.1), (1, .ref (G.2.1 + 0)), (2, .ref (G.2.1 + 79)), (3, .ref (G.2.1 + 124)), (4, .int x4), (5, .int r8), (6, .int r9)]) [1, 2, 3, 4, 5, 6, 0] dd_L_law_365 (by decide) rfl ?_
          refine ev_aload_n dd_L_law_367 2 rfl ?_
          refine ev_callVI (As := []) cl_RL_117 (ct_X12_thrown l hl G 79 zs_79 M10) dd_L_law_368 zs_79 (by decide) (by show w + 1 ≤ 2100; omega) (Nat.le_of_ble_eq_true rfl) rfl rfl (fun r10 M11 => ?_)
          refine ev_iload dd_L_law_371 5 rfl ?_
          refine ev_icmp_eq 378 dd_L_law_373 (by decide) ?_ ?_
          · refine ev_iload dd_L_law_378 5 rfl ?_
            refine ev_lv (lv' := [(0, .ref G.2.2.2.2.2.1), (1, .ref (G.2.1 + 0)), (2, .ref (G.2.1 + 79)), (3, .ref (G.2.1 + 124)), (4, .int x4), (6, .int r9)]) [0, 1, 2, 3, 4, 6] rfl ?_
            refine ev_jo (fun (k3 : zM → zO) => ∀  (M12 : zM), zEv l G Y_L_law 200 (w + 1) 395 [(0, .ref G.2.2.2.2.2.1), (1, .ref (G.2.1 + 0)), (2, .ref (G.2.1 + 79)), (3, .ref (G.2.1 + 124)), (4, .int x4)] [] M12 (k3 M12)) ?_ (fun k3 hk3 => ?_)
            · intro M12
              refine ev_goto 2261 dd_L_law_395 (by decide) ?_
              refine ev_u (u' := w + 4) (by show w + 1 ≤ w + 4; omega) ?_
              exact hk1 _
            · refine ev_if_ne 395 dd_L_law_380 (by decide) ?_ ?_
              · refine ev_lv (lv' := [(0, .ref G.2.2.2.2.2.1), (1, .ref (G.2.1 + 0)), (2, .ref (G.2.1 + 79)), (3, .ref (G.2.1 + 124)), (4, .int x4)]) [0, 1, 2, 3, 4] rfl ?_
                exact hk3 _
              · refine ev_aload_n dd_L_law_383 3 rfl ?_
                refine ev_iconst (v := 0) dd_L_law_384 (by decide) ?_
                refine ev_lald dd_L_law_385 zs_124 za_124 ?_
                refine ev_iload dd_L_law_386 5 rfl ?_
                refine ev_lv (lv' := [(0, .ref G.2.2.2.2.2.1), (1, .ref (G.2.1 + 0)), (2, .ref (G.2.1 + 79)), (3, .ref (G.2.1 + 124)), (4, .int x4)]) [0, 1, 2, 3, 4] rfl ?_
                refine ev_i2l dd_L_law_388 ?_
                refine ev_lcmp dd_L_law_389 ?_
                refine ev_if_eq 395 dd_L_law_390 (by decide) ?_ ?_
                · exact hk3 _
                · refine ev_lv (lv' := [(0, .ref G.2.2.2.2.2.1), (1, .ref (G.2.1 + 0)), (2, .ref (G.2.1 + 79)), (3, .ref (G.2.1 + 124))]) [0, 1, 2, 3] rfl ?_
                  refine ev_iconst (v := 0) dd_L_law_393 (by decide) ?_
                  exact ev_zret dd_L_law_394 rfl (by show w + 1 ≤ 2100; omega) rfl
          · refine ev_lv (lv' := [(0, .ref G.2.2.2.2.2.1), (1, .ref (G.2.1 + 0)), (2, .ref (G.2.1 + 79)), (3, .ref (G.2.1 + 124))]) [0, 1, 2, 3] rfl ?_
            refine ev_iconst (v := 0) dd_L_law_376 (by decide) ?_
            exact ev_zret dd_L_law_377 rfl (by show w + 1 ≤ 2100; omega) rfl
        refine ev_it (fun hs5 => ?_) (fun hs5 => ?_)
        · refine ev_tabIn (off := 358) (tgt := 398) dd_L_law_40 4 hs5 (by decide +kernel) ?_
          refine ev_aload_n dd_L_law_398 1 rfl ?_
          refine ev_aload_n dd_L_law_399 0 rfl ?_
          refine ev_iload dd_L_law_400 4 rfl ?_
          refine ev_iconst (v := 1) dd_L_law_402 (by decide) ?_
          refine ev_iadd dd_L_law_403 ?_
          refine ev_sld dd_L_law_404 ?_
          refine ev_aload_n dd_L_law_405 0 rfl ?_
          refine ev_iload dd_L_law_406 4 rfl ?_
          refine ev_iconst (v := 2) dd_L_law_408 (by decide) ?_
          refine ev_iadd dd_L_law_409 ?_
          refine ev_sld dd_L_law_410 ?_
          refine ev_aload_n dd_L_law_411 3 rfl ?_
          refine ev_callHI (u' := (w + 2)) (As := [.ref (G.2.1 + 0), .int (G.2.2.2.2.2.2.2 (zix (x4 + 1))), .int (G.2.2.2.2.2.2.2 (zix (x4 + 2))), .ref (G.2.1 + 124)]) cl_RL_128 (ct_L_name l hl G 0 zs_0 (G.2.2.2.2.2.2.2 (zix (x4 + 1))) (G.2.2.2.2.2.2.2 (zix (x4 + 2))) 124 zs_124 M) dd_L_law_412 (by decide) rfl (by show w + 2 ≤ 2100; omega) (Nat.le_of_ble_eq_true rfl) rfl rfl (fun r11 M13 => ?_)
          refine ev_istore (i := 5) (lv' := [(0, .ref G.2.2.2.2.2.1), (1, .ref (G.2.1 + 0)), (2, .ref (G.2.1 + 79)), (3, .ref (G.2.1 + 124)), (4, .int x4), (5, .int r11)]) [1, 2, 3, 4, 5, 0] dd_L_law_415 (by decide) rfl ?_
          refine ev_aload_n dd_L_law_417 2 rfl ?_
          refine ev_aload_n dd_L_law_418 0 rfl ?_
          refine ev_iload dd_L_law_419 4 rfl ?_
          refine ev_iconst (v := 1) dd_L_law_421 (by decide) ?_
          refine ev_iadd dd_L_law_422 ?_
          refine ev_sld dd_L_law_423 ?_
          refine ev_aload_n dd_L_law_424 0 rfl ?_
          refine ev_iload dd_L_law_425 4 rfl ?_
          refine ev_iconst (v := 2) dd_L_law_427 (by decide) ?_
          refine ev_iadd dd_L_law_428 ?_
          refine ev_sld dd_L_law_429 ?_
          refine ev_callVI (As := [.int (G.2.2.2.2.2.2.2 (zix (x4 + 1))), .int (G.2.2.2.2.2.2.2 (zix (x4 + 2)))]) cl_RL_131 (ct_X12_name l hl G 79 zs_79 (G.2.2.2.2.2.2.2 (zix (x4 + 1))) (G.2.2.2.2.2.2.2 (zix (x4 + 2))) M13) dd_L_law_430 zs_79 (by decide) (by show w + 2 ≤ 2100; omega) (Nat.le_of_ble_eq_true rfl) rfl rfl (fun r12 M14 => ?_)
          refine ev_istore (i := 6) (lv' := [(0, .ref G.2.2.2.2.2.1), (1, .ref (G.2.1 + 0)), (2, .ref (G.2.1 + 79)), (3, .ref (G.2.1 + 124)), (4, .int x4), (5, .int r11), (6, .int r12)]) [1, 2, 3, 4, 5, 6, 0] dd_L_law_433 (by decide) rfl ?_
          refine ev_aload_n dd_L_law_435 2 rfl ?_
          refine ev_callVI (As := []) cl_RL_117 (ct_X12_thrown l hl G 79 zs_79 M14) dd_L_law_436 zs_79 (by decide) (by show w + 2 ≤ 2100; omega) (Nat.le_of_ble_eq_true rfl) rfl rfl (fun r13 M15 => ?_)
          refine ev_iload dd_L_law_439 5 rfl ?_
          refine ev_icmp_eq 446 dd_L_law_441 (by decide) ?_ ?_
          · refine ev_iload dd_L_law_446 5 rfl ?_
            refine ev_lv (lv' := [(0, .ref G.2.2.2.2.2.1), (1, .ref (G.2.1 + 0)), (2, .ref (G.2.1 + 79)), (3, .ref (G.2.1 + 124)), (4, .int x4), (6, .int r12)]) [0, 1, 2, 3, 4, 6] rfl ?_
            refine ev_jo (fun (k4 : zM → zO) => ∀  (M16 : zM), zEv l G Y_L_law 200 (w + 2) 463 [(0, .ref G.2.2.2.2.2.1), (1, .ref (G.2.1 + 0)), (2, .ref (G.2.1 + 79)), (3, .ref (G.2.1 + 124)), (4, .int x4)] [] M16 (k4 M16)) ?_ (fun k4 hk4 => ?_)
            · intro M16
              refine ev_goto 2261 dd_L_law_463 (by decide) ?_
              refine ev_u (u' := w + 4) (by show w + 2 ≤ w + 4; omega) ?_
              exact hk1 _
            · refine ev_if_ne 463 dd_L_law_448 (by decide) ?_ ?_
              · refine ev_lv (lv' := [(0, .ref G.2.2.2.2.2.1), (1, .ref (G.2.1 + 0)), (2, .ref (G.2.1 + 79)), (3, .ref (G.2.1 + 124)), (4, .int x4)]) [0, 1, 2, 3, 4] rfl ?_
                exact hk4 _
              · refine ev_aload_n dd_L_law_451 3 rfl ?_
                refine ev_iconst (v := 0) dd_L_law_452 (by decide) ?_
                refine ev_lald dd_L_law_453 zs_124 za_124 ?_
                refine ev_iload dd_L_law_454 5 rfl ?_
                refine ev_lv (lv' := [(0, .ref G.2.2.2.2.2.1), (1, .ref (G.2.1 + 0)), (2, .ref (G.2.1 + 79)), (3, .ref (G.2.1 + 124)), (4, .int x4)]) [0, 1, 2, 3, 4] rfl ?_
                refine ev_i2l dd_L_law_456 ?_
                refine ev_lcmp dd_L_law_457 ?_
                refine ev_if_eq 463 dd_L_law_458 (by decide) ?_ ?_
                · exact hk4 _
                · refine ev_lv (lv' := [(0, .ref G.2.2.2.2.2.1), (1, .ref (G.2.1 + 0)), (2, .ref (G.2.1 + 79)), (3, .ref (G.2.1 + 124))]) [0, 1, 2, 3] rfl ?_
                  refine ev_iconst (v := 0) dd_L_law_461 (by decide) ?_
                  exact ev_zret dd_L_law_462 rfl (by show w + 2 ≤ 2100; omega) rfl
          · refine ev_lv (lv' := [(0, .ref G.2.2.2.2.2.1), (1, .ref (G.2.1 + 0)), (2, .ref (G.2.1 + 79)), (3, .ref (G.2.1 + 124))]) [0, 1, 2, 3] rfl ?_
            refine ev_iconst (v := 0) dd_L_law_444 (by decide) ?_
            exact ev_zret dd_L_law_445 rfl (by show w + 2 ≤ 2100; omega) rfl
        refine ev_it (fun hs6 => ?_) (fun hs6 => ?_)
        · refine ev_tabIn (off := 426) (tgt := 466) dd_L_law_40 5 hs6 (by decide +kernel) ?_
          refine ev_aload_n dd_L_law_466 1 rfl ?_
          refine ev_aload_n dd_L_law_467 0 rfl ?_
          refine ev_iload dd_L_law_468 4 rfl ?_
          refine ev_iconst (v := 1) dd_L_law_470 (by decide) ?_
          refine ev_iadd dd_L_law_471 ?_
          refine ev_sld dd_L_law_472 ?_
          refine ev_aload_n dd_L_law_473 0 rfl ?_
          refine ev_iload dd_L_law_474 4 rfl ?_
          refine ev_iconst (v := 2) dd_L_law_476 (by decide) ?_
          refine ev_iadd dd_L_law_477 ?_
          refine ev_sld dd_L_law_478 ?_
          refine ev_aload_n dd_L_law_479 3 rfl ?_
          refine ev_callHI (u' := (w + 2)) (As := [.ref (G.2.1 + 0), .int (G.2.2.2.2.2.2.2 (zix (x4 + 1))), .int (G.2.2.2.2.2.2.2 (zix (x4 + 2))), .ref (G.2.1 + 124)]) cl_RL_132 (ct_L_letter l hl G 0 zs_0 (G.2.2.2.2.2.2.2 (zix (x4 + 1))) (G.2.2.2.2.2.2.2 (zix (x4 + 2))) 124 zs_124 M) dd_L_law_480 (by decide) rfl (by show w + 2 ≤ 2100; omega) (Nat.le_of_ble_eq_true rfl) rfl rfl (fun r14 M17 => ?_)
          refine ev_istore (i := 5) (lv' := [(0, .ref G.2.2.2.2.2.1), (1, .ref (G.2.1 + 0)), (2, .ref (G.2.1 + 79)), (3, .ref (G.2.1 + 124)), (4, .int x4), (5, .int r14)]) [1, 2, 3, 4, 5, 0] dd_L_law_483 (by decide) rfl ?_
          refine ev_aload_n dd_L_law_485 2 rfl ?_
          refine ev_aload_n dd_L_law_486 0 rfl ?_
          refine ev_iload dd_L_law_487 4 rfl ?_
          refine ev_iconst (v := 1) dd_L_law_489 (by decide) ?_
          refine ev_iadd dd_L_law_490 ?_
          refine ev_sld dd_L_law_491 ?_
          refine ev_aload_n dd_L_law_492 0 rfl ?_
          refine ev_iload dd_L_law_493 4 rfl ?_
          refine ev_iconst (v := 2) dd_L_law_495 (by decide) ?_
          refine ev_iadd dd_L_law_496 ?_
          refine ev_sld dd_L_law_497 ?_
          refine ev_callVI (As := [.int (G.2.2.2.2.2.2.2 (zix (x4 + 1))), .int (G.2.2.2.2.2.2.2 (zix (x4 + 2)))]) cl_RL_134 (ct_X12_letter l hl G 79 zs_79 (G.2.2.2.2.2.2.2 (zix (x4 + 1))) (G.2.2.2.2.2.2.2 (zix (x4 + 2))) M17) dd_L_law_498 zs_79 (by decide) (by show w + 2 ≤ 2100; omega) (Nat.le_of_ble_eq_true rfl) rfl rfl (fun r15 M18 => ?_)
          refine ev_istore (i := 6) (lv' := [(0, .ref G.2.2.2.2.2.1), (1, .ref (G.2.1 + 0)), (2, .ref (G.2.1 + 79)), (3, .ref (G.2.1 + 124)), (4, .int x4), (5, .int r14), (6, .int r15)]) [1, 2, 3, 4, 5, 6, 0] dd_L_law_501 (by decide) rfl ?_
          refine ev_aload_n dd_L_law_503 2 rfl ?_
          refine ev_callVI (As := []) cl_RL_117 (ct_X12_thrown l hl G 79 zs_79 M18) dd_L_law_504 zs_79 (by decide) (by show w + 2 ≤ 2100; omega) (Nat.le_of_ble_eq_true rfl) rfl rfl (fun r16 M19 => ?_)
          refine ev_iload dd_L_law_507 5 rfl ?_
          refine ev_icmp_eq 514 dd_L_law_509 (by decide) ?_ ?_
          · refine ev_iload dd_L_law_514 5 rfl ?_
            refine ev_lv (lv' := [(0, .ref G.2.2.2.2.2.1), (1, .ref (G.2.1 + 0)), (2, .ref (G.2.1 + 79)), (3, .ref (G.2.1 + 124)), (4, .int x4), (6, .int r15)]) [0, 1, 2, 3, 4, 6] rfl ?_
            refine ev_jo (fun (k5 : zM → zO) => ∀  (M20 : zM), zEv l G Y_L_law 200 (w + 2) 531 [(0, .ref G.2.2.2.2.2.1), (1, .ref (G.2.1 + 0)), (2, .ref (G.2.1 + 79)), (3, .ref (G.2.1 + 124)), (4, .int x4)] [] M20 (k5 M20)) ?_ (fun k5 hk5 => ?_)
            · intro M20
              refine ev_goto 2261 dd_L_law_531 (by decide) ?_
              refine ev_u (u' := w + 4) (by show w + 2 ≤ w + 4; omega) ?_
              exact hk1 _
            · refine ev_if_ne 531 dd_L_law_516 (by decide) ?_ ?_
              · refine ev_lv (lv' := [(0, .ref G.2.2.2.2.2.1), (1, .ref (G.2.1 + 0)), (2, .ref (G.2.1 + 79)), (3, .ref (G.2.1 + 124)), (4, .int x4)]) [0, 1, 2, 3, 4] rfl ?_
                exact hk5 _
              · refine ev_aload_n dd_L_law_519 3 rfl ?_
                refine ev_iconst (v := 0) dd_L_law_520 (by decide) ?_
                refine ev_lald dd_L_law_521 zs_124 za_124 ?_
                refine ev_iload dd_L_law_522 5 rfl ?_
                refine ev_lv (lv' := [(0, .ref G.2.2.2.2.2.1), (1, .ref (G.2.1 + 0)), (2, .ref (G.2.1 + 79)), (3, .ref (G.2.1 + 124)), (4, .int x4)]) [0, 1, 2, 3, 4] rfl ?_
                refine ev_i2l dd_L_law_524 ?_
                refine ev_lcmp dd_L_law_525 ?_
                refine ev_if_eq 531 dd_L_law_526 (by decide) ?_ ?_
                · exact hk5 _
                · refine ev_lv (lv' := [(0, .ref G.2.2.2.2.2.1), (1, .ref (G.2.1 + 0)), (2, .ref (G.2.1 + 79)), (3, .ref (G.2.1 + 124))]) [0, 1, 2, 3] rfl ?_
                  refine ev_iconst (v := 0) dd_L_law_529 (by decide) ?_
                  exact ev_zret dd_L_law_530 rfl (by show w + 2 ≤ 2100; omega) rfl
          · refine ev_lv (lv' := [(0, .ref G.2.2.2.2.2.1), (1, .ref (G.2.1 + 0)), (2, .ref (G.2.1 + 79)), (3, .ref (G.2.1 + 124))]) [0, 1, 2, 3] rfl ?_
            refine ev_iconst (v := 0) dd_L_law_512 (by decide) ?_
            exact ev_zret dd_L_law_513 rfl (by show w + 2 ≤ 2100; omega) rfl
        refine ev_it (fun hs7 => ?_) (fun hs7 => ?_)
        · refine ev_tabIn (off := 494) (tgt := 534) dd_L_law_40 6 hs7 (by decide +kernel) ?_
          refine ev_aload_n dd_L_law_534 1 rfl ?_
          refine ev_aload_n dd_L_law_535 0 rfl ?_
          refine ev_iload dd_L_law_536 4 rfl ?_
          refine ev_iconst (v := 1) dd_L_law_538 (by decide) ?_
          refine ev_iadd dd_L_law_539 ?_
          refine ev_sld dd_L_law_540 ?_
          refine ev_aload_n dd_L_law_541 3 rfl ?_
          refine ev_callHI (u' := (w + 1)) (As := [.ref (G.2.1 + 0), .int (G.2.2.2.2.2.2.2 (zix (x4 + 1))), .ref (G.2.1 + 124)]) cl_RL_135 (ct_L_has l hl G 0 zs_0 (G.2.2.2.2.2.2.2 (zix (x4 + 1))) 124 zs_124 M) dd_L_law_542 (by decide) rfl (by show w + 1 ≤ 2100; omega) (Nat.le_of_ble_eq_true rfl) rfl rfl (fun r17 M21 => ?_)
          refine ev_istore (i := 5) (lv' := [(0, .ref G.2.2.2.2.2.1), (1, .ref (G.2.1 + 0)), (2, .ref (G.2.1 + 79)), (3, .ref (G.2.1 + 124)), (4, .int x4), (5, .int r17)]) [1, 2, 3, 4, 5, 0] dd_L_law_545 (by decide) rfl ?_
          refine ev_aload_n dd_L_law_547 2 rfl ?_
          refine ev_aload_n dd_L_law_548 0 rfl ?_
          refine ev_iload dd_L_law_549 4 rfl ?_
          refine ev_iconst (v := 1) dd_L_law_551 (by decide) ?_
          refine ev_iadd dd_L_law_552 ?_
          refine ev_sld dd_L_law_553 ?_
          refine ev_callVI (As := [.int (G.2.2.2.2.2.2.2 (zix (x4 + 1)))]) cl_RL_137 (ct_X12_has l hl G 79 zs_79 (G.2.2.2.2.2.2.2 (zix (x4 + 1))) M21) dd_L_law_554 zs_79 (by decide) (by show w + 1 ≤ 2100; omega) (Nat.le_of_ble_eq_true rfl) rfl rfl (fun r18 M22 => ?_)
          refine ev_istore (i := 6) (lv' := [(0, .ref G.2.2.2.2.2.1), (1, .ref (G.2.1 + 0)), (2, .ref (G.2.1 + 79)), (3, .ref (G.2.1 + 124)), (4, .int x4), (5, .int r17), (6, .int r18)]) [1, 2, 3, 4, 5, 6, 0] dd_L_law_557 (by decide) rfl ?_
          refine ev_aload_n dd_L_law_559 2 rfl ?_
          refine ev_callVI (As := []) cl_RL_117 (ct_X12_thrown l hl G 79 zs_79 M22) dd_L_law_560 zs_79 (by decide) (by show w + 1 ≤ 2100; omega) (Nat.le_of_ble_eq_true rfl) rfl rfl (fun r19 M23 => ?_)
          refine ev_iload dd_L_law_563 5 rfl ?_
          refine ev_icmp_eq 570 dd_L_law_565 (by decide) ?_ ?_
          · refine ev_iload dd_L_law_570 5 rfl ?_
            refine ev_lv (lv' := [(0, .ref G.2.2.2.2.2.1), (1, .ref (G.2.1 + 0)), (2, .ref (G.2.1 + 79)), (3, .ref (G.2.1 + 124)), (4, .int x4), (6, .int r18)]) [0, 1, 2, 3, 4, 6] rfl ?_
            refine ev_jo (fun (k6 : zM → zO) => ∀  (M24 : zM), zEv l G Y_L_law 200 (w + 1) 587 [(0, .ref G.2.2.2.2.2.1), (1, .ref (G.2.1 + 0)), (2, .ref (G.2.1 + 79)), (3, .ref (G.2.1 + 124)), (4, .int x4)] [] M24 (k6 M24)) ?_ (fun k6 hk6 => ?_)
            · intro M24
              refine ev_goto 2261 dd_L_law_587 (by decide) ?_
              refine ev_u (u' := w + 4) (by show w + 1 ≤ w + 4; omega) ?_
              exact hk1 _
            · refine ev_if_ne 587 dd_L_law_572 (by decide) ?_ ?_
              · refine ev_lv (lv' := [(0, .ref G.2.2.2.2.2.1), (1, .ref (G.2.1 + 0)), (2, .ref (G.2.1 + 79)), (3, .ref (G.2.1 + 124)), (4, .int x4)]) [0, 1, 2, 3, 4] rfl ?_
                exact hk6 _
              · refine ev_aload_n dd_L_law_575 3 rfl ?_
                refine ev_iconst (v := 0) dd_L_law_576 (by decide) ?_
                refine ev_lald dd_L_law_577 zs_124 za_124 ?_
                refine ev_iload dd_L_law_578 5 rfl ?_
                refine ev_lv (lv' := [(0, .ref G.2.2.2.2.2.1), (1, .ref (G.2.1 + 0)), (2, .ref (G.2.1 + 79)), (3, .ref (G.2.1 + 124)), (4, .int x4)]) [0, 1, 2, 3, 4] rfl ?_
                refine ev_i2l dd_L_law_580 ?_
                refine ev_lcmp dd_L_law_581 ?_
                refine ev_if_eq 587 dd_L_law_582 (by decide) ?_ ?_
                · exact hk6 _
                · refine ev_lv (lv' := [(0, .ref G.2.2.2.2.2.1), (1, .ref (G.2.1 + 0)), (2, .ref (G.2.1 + 79)), (3, .ref (G.2.1 + 124))]) [0, 1, 2, 3] rfl ?_
                  refine ev_iconst (v := 0) dd_L_law_585 (by decide) ?_
                  exact ev_zret dd_L_law_586 rfl (by show w + 1 ≤ 2100; omega) rfl
          · refine ev_lv (lv' := [(0, .ref G.2.2.2.2.2.1), (1, .ref (G.2.1 + 0)), (2, .ref (G.2.1 + 79)), (3, .ref (G.2.1 + 124))]) [0, 1, 2, 3] rfl ?_
            refine ev_iconst (v := 0) dd_L_law_568 (by decide) ?_
            exact ev_zret dd_L_law_569 rfl (by show w + 1 ≤ 2100; omega) rfl
        refine ev_it (fun hs8 => ?_) (fun hs8 => ?_)
        · refine ev_tabIn (off := 550) (tgt := 590) dd_L_law_40 7 hs8 (by decide +kernel) ?_
          refine ev_aload_n dd_L_law_590 1 rfl ?_
          refine ev_aload_n dd_L_law_591 0 rfl ?_
          refine ev_iload dd_L_law_592 4 rfl ?_
          refine ev_iconst (v := 1) dd_L_law_594 (by decide) ?_
          refine ev_iadd dd_L_law_595 ?_
          refine ev_sld dd_L_law_596 ?_
          refine ev_aload_n dd_L_law_597 0 rfl ?_
          refine ev_iload dd_L_law_598 4 rfl ?_
          refine ev_iconst (v := 2) dd_L_law_600 (by decide) ?_
          refine ev_iadd dd_L_law_601 ?_
          refine ev_sld dd_L_law_602 ?_
          refine ev_aload_n dd_L_law_603 3 rfl ?_
          refine ev_callHI (u' := (w + 3)) (As := [.ref (G.2.1 + 0), .int (G.2.2.2.2.2.2.2 (zix (x4 + 1))), .int (G.2.2.2.2.2.2.2 (zix (x4 + 2))), .ref (G.2.1 + 124)]) cl_RL_138 (ct_L_debt l hl G 0 zs_0 (G.2.2.2.2.2.2.2 (zix (x4 + 1))) (G.2.2.2.2.2.2.2 (zix (x4 + 2))) 124 zs_124 M) dd_L_law_604 (by decide) rfl (by show w + 3 ≤ 2100; omega) (Nat.le_of_ble_eq_true rfl) rfl rfl (fun r20 M25 => ?_)
          refine ev_istore (i := 5) (lv' := [(0, .ref G.2.2.2.2.2.1), (1, .ref (G.2.1 + 0)), (2, .ref (G.2.1 + 79)), (3, .ref (G.2.1 + 124)), (4, .int x4), (5, .int r20)]) [1, 2, 3, 4, 5, 0] dd_L_law_607 (by decide) rfl ?_
          refine ev_aload_n dd_L_law_609 2 rfl ?_
          refine ev_aload_n dd_L_law_610 0 rfl ?_
          refine ev_iload dd_L_law_611 4 rfl ?_
          refine ev_iconst (v := 1) dd_L_law_613 (by decide) ?_
          refine ev_iadd dd_L_law_614 ?_
          refine ev_sld dd_L_law_615 ?_
          refine ev_aload_n dd_L_law_616 0 rfl ?_
          refine ev_iload dd_L_law_617 4 rfl ?_
          refine ev_iconst (v := 2) dd_L_law_619 (by decide) ?_
          refine ev_iadd dd_L_law_620 ?_
          refine ev_sld dd_L_law_621 ?_
          refine ev_callVI (As := [.int (G.2.2.2.2.2.2.2 (zix (x4 + 1))), .int (G.2.2.2.2.2.2.2 (zix (x4 + 2)))]) cl_RL_140 (ct_X12_debt l hl G 79 zs_79 (G.2.2.2.2.2.2.2 (zix (x4 + 1))) (G.2.2.2.2.2.2.2 (zix (x4 + 2))) M25) dd_L_law_622 zs_79 (by decide) (by show w + 3 ≤ 2100; omega) (Nat.le_of_ble_eq_true rfl) rfl rfl (fun r21 M26 => ?_)
          refine ev_istore (i := 6) (lv' := [(0, .ref G.2.2.2.2.2.1), (1, .ref (G.2.1 + 0)), (2, .ref (G.2.1 + 79)), (3, .ref (G.2.1 + 124)), (4, .int x4), (5, .int r20), (6, .int r21)]) [1, 2, 3, 4, 5, 6, 0] dd_L_law_625 (by decide) rfl ?_
          refine ev_aload_n dd_L_law_627 2 rfl ?_
          refine ev_callVI (As := []) cl_RL_117 (ct_X12_thrown l hl G 79 zs_79 M26) dd_L_law_628 zs_79 (by decide) (by show w + 3 ≤ 2100; omega) (Nat.le_of_ble_eq_true rfl) rfl rfl (fun r22 M27 => ?_)
          refine ev_iload dd_L_law_631 5 rfl ?_
          refine ev_icmp_eq 638 dd_L_law_633 (by decide) ?_ ?_
          · refine ev_iload dd_L_law_638 5 rfl ?_
            refine ev_lv (lv' := [(0, .ref G.2.2.2.2.2.1), (1, .ref (G.2.1 + 0)), (2, .ref (G.2.1 + 79)), (3, .ref (G.2.1 + 124)), (4, .int x4), (6, .int r21)]) [0, 1, 2, 3, 4, 6] rfl ?_
            refine ev_jo (fun (k7 : zM → zO) => ∀  (M28 : zM), zEv l G Y_L_law 200 (w + 3) 655 [(0, .ref G.2.2.2.2.2.1), (1, .ref (G.2.1 + 0)), (2, .ref (G.2.1 + 79)), (3, .ref (G.2.1 + 124)), (4, .int x4)] [] M28 (k7 M28)) ?_ (fun k7 hk7 => ?_)
            · intro M28
              refine ev_goto 2261 dd_L_law_655 (by decide) ?_
              refine ev_u (u' := w + 4) (by show w + 3 ≤ w + 4; omega) ?_
              exact hk1 _
            · refine ev_if_ne 655 dd_L_law_640 (by decide) ?_ ?_
              · refine ev_lv (lv' := [(0, .ref G.2.2.2.2.2.1), (1, .ref (G.2.1 + 0)), (2, .ref (G.2.1 + 79)), (3, .ref (G.2.1 + 124)), (4, .int x4)]) [0, 1, 2, 3, 4] rfl ?_
                exact hk7 _
              · refine ev_aload_n dd_L_law_643 3 rfl ?_
                refine ev_iconst (v := 0) dd_L_law_644 (by decide) ?_
                refine ev_lald dd_L_law_645 zs_124 za_124 ?_
                refine ev_iload dd_L_law_646 5 rfl ?_
                refine ev_lv (lv' := [(0, .ref G.2.2.2.2.2.1), (1, .ref (G.2.1 + 0)), (2, .ref (G.2.1 + 79)), (3, .ref (G.2.1 + 124)), (4, .int x4)]) [0, 1, 2, 3, 4] rfl ?_
                refine ev_i2l dd_L_law_648 ?_
                refine ev_lcmp dd_L_law_649 ?_
                refine ev_if_eq 655 dd_L_law_650 (by decide) ?_ ?_
                · exact hk7 _
                · refine ev_lv (lv' := [(0, .ref G.2.2.2.2.2.1), (1, .ref (G.2.1 + 0)), (2, .ref (G.2.1 + 79)), (3, .ref (G.2.1 + 124))]) [0, 1, 2, 3] rfl ?_
                  refine ev_iconst (v := 0) dd_L_law_653 (by decide) ?_
                  exact ev_zret dd_L_law_654 rfl (by show w + 3 ≤ 2100; omega) rfl
          · refine ev_lv (lv' := [(0, .ref G.2.2.2.2.2.1), (1, .ref (G.2.1 + 0)), (2, .ref (G.2.1 + 79)), (3, .ref (G.2.1 + 124))]) [0, 1, 2, 3] rfl ?_
            refine ev_iconst (v := 0) dd_L_law_636 (by decide) ?_
            exact ev_zret dd_L_law_637 rfl (by show w + 3 ≤ 2100; omega) rfl
        refine ev_it (fun hs9 => ?_) (fun hs9 => ?_)
        · refine ev_tabIn (off := 618) (tgt := 658) dd_L_law_40 8 hs9 (by decide +kernel) ?_
          refine ev_aload_n dd_L_law_658 1 rfl ?_
          refine ev_aload_n dd_L_law_659 0 rfl ?_
          refine ev_iload dd_L_law_660 4 rfl ?_
          refine ev_iconst (v := 1) dd_L_law_662 (by decide) ?_
          refine ev_iadd dd_L_law_663 ?_
          refine ev_sld dd_L_law_664 ?_
          refine ev_aload_n dd_L_law_665 0 rfl ?_
          refine ev_iload dd_L_law_666 4 rfl ?_
          refine ev_iconst (v := 2) dd_L_law_668 (by decide) ?_
          refine ev_iadd dd_L_law_669 ?_
          refine ev_sld dd_L_law_670 ?_
          refine ev_aload_n dd_L_law_671 3 rfl ?_
          refine ev_callHI (u' := (w + 3)) (As := [.ref (G.2.1 + 0), .int (G.2.2.2.2.2.2.2 (zix (x4 + 1))), .int (G.2.2.2.2.2.2.2 (zix (x4 + 2))), .ref (G.2.1 + 124)]) cl_RL_141 (ct_L_may l hl G 0 zs_0 (G.2.2.2.2.2.2.2 (zix (x4 + 1))) (G.2.2.2.2.2.2.2 (zix (x4 + 2))) 124 zs_124 M) dd_L_law_672 (by decide) rfl (by show w + 3 ≤ 2100; omega) (Nat.le_of_ble_eq_true rfl) rfl rfl (fun r23 M29 => ?_)
          refine ev_istore (i := 5) (lv' := [(0, .ref G.2.2.2.2.2.1), (1, .ref (G.2.1 + 0)), (2, .ref (G.2.1 + 79)), (3, .ref (G.2.1 + 124)), (4, .int x4), (5, .int r23)]) [1, 2, 3, 4, 5, 0] dd_L_law_675 (by decide) rfl ?_
          refine ev_aload_n dd_L_law_677 2 rfl ?_
          refine ev_aload_n dd_L_law_678 0 rfl ?_
          refine ev_iload dd_L_law_679 4 rfl ?_
          refine ev_iconst (v := 1) dd_L_law_681 (by decide) ?_
          refine ev_iadd dd_L_law_682 ?_
          refine ev_sld dd_L_law_683 ?_
          refine ev_aload_n dd_L_law_684 0 rfl ?_
          refine ev_iload dd_L_law_685 4 rfl ?_
          refine ev_iconst (v := 2) dd_L_law_687 (by decide) ?_
          refine ev_iadd dd_L_law_688 ?_
          refine ev_sld dd_L_law_689 ?_
          refine ev_callVI (As := [.int (G.2.2.2.2.2.2.2 (zix (x4 + 1))), .int (G.2.2.2.2.2.2.2 (zix (x4 + 2)))]) cl_RL_143 (ct_X12_may l hl G 79 zs_79 (G.2.2.2.2.2.2.2 (zix (x4 + 1))) (G.2.2.2.2.2.2.2 (zix (x4 + 2))) M29) dd_L_law_690 zs_79 (by decide) (by show w + 3 ≤ 2100; omega) (Nat.le_of_ble_eq_true rfl) rfl rfl (fun r24 M30 => ?_)
          refine ev_istore (i := 6) (lv' := [(0, .ref G.2.2.2.2.2.1), (1, .ref (G.2.1 + 0)), (2, .ref (G.2.1 + 79)), (3, .ref (G.2.1 + 124)), (4, .int x4), (5, .int r23), (6, .int r24)]) [1, 2, 3, 4, 5, 6, 0] dd_L_law_693 (by decide) rfl ?_
          refine ev_aload_n dd_L_law_695 2 rfl ?_
          refine ev_callVI (As := []) cl_RL_117 (ct_X12_thrown l hl G 79 zs_79 M30) dd_L_law_696 zs_79 (by decide) (by show w + 3 ≤ 2100; omega) (Nat.le_of_ble_eq_true rfl) rfl rfl (fun r25 M31 => ?_)
          refine ev_iload dd_L_law_699 5 rfl ?_
          refine ev_icmp_eq 706 dd_L_law_701 (by decide) ?_ ?_
          · refine ev_iload dd_L_law_706 5 rfl ?_
            refine ev_lv (lv' := [(0, .ref G.2.2.2.2.2.1), (1, .ref (G.2.1 + 0)), (2, .ref (G.2.1 + 79)), (3, .ref (G.2.1 + 124)), (4, .int x4), (6, .int r24)]) [0, 1, 2, 3, 4, 6] rfl ?_
            refine ev_jo (fun (k8 : zM → zO) => ∀  (M33 : zM), zEv l G Y_L_law 200 (w + 3) 730 [(0, .ref G.2.2.2.2.2.1), (1, .ref (G.2.1 + 0)), (2, .ref (G.2.1 + 79)), (3, .ref (G.2.1 + 124)), (4, .int x4)] [] M33 (k8 M33)) ?_ (fun k8 hk8 => ?_)
            · intro M33
              refine ev_goto 2261 dd_L_law_730 (by decide) ?_
              refine ev_u (u' := w + 4) (by show w + 3 ≤ w + 4; omega) ?_
              exact hk1 _
            · refine ev_if_ne 730 dd_L_law_708 (by decide) ?_ ?_
              · refine ev_lv (lv' := [(0, .ref G.2.2.2.2.2.1), (1, .ref (G.2.1 + 0)), (2, .ref (G.2.1 + 79)), (3, .ref (G.2.1 + 124)), (4, .int x4)]) [0, 1, 2, 3, 4] rfl ?_
                exact hk8 _
              · refine ev_aload_n dd_L_law_711 3 rfl ?_
                refine ev_iconst (v := 0) dd_L_law_712 (by decide) ?_
                refine ev_lald dd_L_law_713 zs_124 za_124 ?_
                refine ev_iload dd_L_law_714 5 rfl ?_
                refine ev_lv (lv' := [(0, .ref G.2.2.2.2.2.1), (1, .ref (G.2.1 + 0)), (2, .ref (G.2.1 + 79)), (3, .ref (G.2.1 + 124)), (4, .int x4)]) [0, 1, 2, 3, 4] rfl ?_
                refine ev_jo (fun (k9 : Int64 → zM → zO) => ∀ (w1 : Int64) (M32 : zM), zEv l G Y_L_law 200 (w + 3) 724 [(0, .ref G.2.2.2.2.2.1), (1, .ref (G.2.1 + 0)), (2, .ref (G.2.1 + 79)), (3, .ref (G.2.1 + 124)), (4, .int x4)] [.long w1, .long (zgA M31 124 (zix 0))] M32 (k9 w1 M32)) ?_ (fun k9 hk9 => ?_)
                · intro w1 M32
                  refine ev_lcmp dd_L_law_724 ?_
                  refine ev_if_eq 730 dd_L_law_725 (by decide) ?_ ?_
                  · exact hk8 _
                  · refine ev_lv (lv' := [(0, .ref G.2.2.2.2.2.1), (1, .ref (G.2.1 + 0)), (2, .ref (G.2.1 + 79)), (3, .ref (G.2.1 + 124))]) [0, 1, 2, 3] rfl ?_
                    refine ev_iconst (v := 0) dd_L_law_728 (by decide) ?_
                    exact ev_zret dd_L_law_729 rfl (by show w + 3 ≤ 2100; omega) rfl
                · refine ev_if_eq 723 dd_L_law_716 (by decide) ?_ ?_
                  · refine ev_lconst (v := 0) dd_L_law_723 (by decide) ?_
                    exact hk9 _ _
                  · refine ev_lconst (v := 1) dd_L_law_719 (by decide) ?_
                    refine ev_goto 724 dd_L_law_720 (by decide) ?_
                    exact hk9 _ _
          · refine ev_lv (lv' := [(0, .ref G.2.2.2.2.2.1), (1, .ref (G.2.1 + 0)), (2, .ref (G.2.1 + 79)), (3, .ref (G.2.1 + 124))]) [0, 1, 2, 3] rfl ?_
            refine ev_iconst (v := 0) dd_L_law_704 (by decide) ?_
            exact ev_zret dd_L_law_705 rfl (by show w + 3 ≤ 2100; omega) rfl
        refine ev_it (fun hs10 => ?_) (fun hs10 => ?_)
        · refine ev_tabIn (off := 693) (tgt := 733) dd_L_law_40 9 hs10 (by decide +kernel) ?_
          refine ev_aload_n dd_L_law_733 1 rfl ?_
          refine ev_aload_n dd_L_law_734 0 rfl ?_
          refine ev_iload dd_L_law_735 4 rfl ?_
          refine ev_iconst (v := 1) dd_L_law_737 (by decide) ?_
          refine ev_iadd dd_L_law_738 ?_
          refine ev_sld dd_L_law_739 ?_
          refine ev_aload_n dd_L_law_740 0 rfl ?_
          refine ev_iload dd_L_law_741 4 rfl ?_
          refine ev_iconst (v := 2) dd_L_law_743 (by decide) ?_
          refine ev_iadd dd_L_law_744 ?_
          refine ev_sld dd_L_law_745 ?_
          refine ev_aload_n dd_L_law_746 3 rfl ?_
          refine ev_callHI (u' := (w + 2)) (As := [.ref (G.2.1 + 0), .int (G.2.2.2.2.2.2.2 (zix (x4 + 1))), .int (G.2.2.2.2.2.2.2 (zix (x4 + 2))), .ref (G.2.1 + 124)]) cl_RL_144 (ct_L_swap l hl G 0 zs_0 (G.2.2.2.2.2.2.2 (zix (x4 + 1))) (G.2.2.2.2.2.2.2 (zix (x4 + 2))) 124 zs_124 M) dd_L_law_747 (by decide) rfl (by show w + 2 ≤ 2100; omega) (Nat.le_of_ble_eq_true rfl) rfl rfl (fun r26 M34 => ?_)
          refine ev_istore (i := 5) (lv' := [(0, .ref G.2.2.2.2.2.1), (1, .ref (G.2.1 + 0)), (2, .ref (G.2.1 + 79)), (3, .ref (G.2.1 + 124)), (4, .int x4), (5, .int r26)]) [1, 2, 3, 4, 5, 0] dd_L_law_750 (by decide) rfl ?_
          refine ev_aload_n dd_L_law_752 2 rfl ?_
          refine ev_aload_n dd_L_law_753 0 rfl ?_
          refine ev_iload dd_L_law_754 4 rfl ?_
          refine ev_iconst (v := 1) dd_L_law_756 (by decide) ?_
          refine ev_iadd dd_L_law_757 ?_
          refine ev_sld dd_L_law_758 ?_
          refine ev_aload_n dd_L_law_759 0 rfl ?_
          refine ev_iload dd_L_law_760 4 rfl ?_
          refine ev_iconst (v := 2) dd_L_law_762 (by decide) ?_
          refine ev_iadd dd_L_law_763 ?_
          refine ev_sld dd_L_law_764 ?_
          refine ev_callVI (As := [.int (G.2.2.2.2.2.2.2 (zix (x4 + 1))), .int (G.2.2.2.2.2.2.2 (zix (x4 + 2)))]) cl_RL_146 (ct_X12_swap l hl G 79 zs_79 (G.2.2.2.2.2.2.2 (zix (x4 + 1))) (G.2.2.2.2.2.2.2 (zix (x4 + 2))) M34) dd_L_law_765 zs_79 (by decide) (by show w + 2 ≤ 2100; omega) (Nat.le_of_ble_eq_true rfl) rfl rfl (fun r27 M35 => ?_)
          refine ev_istore (i := 6) (lv' := [(0, .ref G.2.2.2.2.2.1), (1, .ref (G.2.1 + 0)), (2, .ref (G.2.1 + 79)), (3, .ref (G.2.1 + 124)), (4, .int x4), (5, .int r26), (6, .int r27)]) [1, 2, 3, 4, 5, 6, 0] dd_L_law_768 (by decide) rfl ?_
          refine ev_aload_n dd_L_law_770 2 rfl ?_
          refine ev_callVI (As := []) cl_RL_117 (ct_X12_thrown l hl G 79 zs_79 M35) dd_L_law_771 zs_79 (by decide) (by show w + 2 ≤ 2100; omega) (Nat.le_of_ble_eq_true rfl) rfl rfl (fun r28 M36 => ?_)
          refine ev_iload dd_L_law_774 5 rfl ?_
          refine ev_icmp_eq 781 dd_L_law_776 (by decide) ?_ ?_
          · refine ev_iload dd_L_law_781 5 rfl ?_
            refine ev_lv (lv' := [(0, .ref G.2.2.2.2.2.1), (1, .ref (G.2.1 + 0)), (2, .ref (G.2.1 + 79)), (3, .ref (G.2.1 + 124)), (4, .int x4), (6, .int r27)]) [0, 1, 2, 3, 4, 6] rfl ?_
            refine ev_jo (fun (k10 : zM → zO) => ∀  (M37 : zM), zEv l G Y_L_law 200 (w + 2) 798 [(0, .ref G.2.2.2.2.2.1), (1, .ref (G.2.1 + 0)), (2, .ref (G.2.1 + 79)), (3, .ref (G.2.1 + 124)), (4, .int x4)] [] M37 (k10 M37)) ?_ (fun k10 hk10 => ?_)
            · intro M37
              refine ev_goto 2261 dd_L_law_798 (by decide) ?_
              refine ev_u (u' := w + 4) (by show w + 2 ≤ w + 4; omega) ?_
              exact hk1 _
            · refine ev_if_ne 798 dd_L_law_783 (by decide) ?_ ?_
              · refine ev_lv (lv' := [(0, .ref G.2.2.2.2.2.1), (1, .ref (G.2.1 + 0)), (2, .ref (G.2.1 + 79)), (3, .ref (G.2.1 + 124)), (4, .int x4)]) [0, 1, 2, 3, 4] rfl ?_
                exact hk10 _
              · refine ev_aload_n dd_L_law_786 3 rfl ?_
                refine ev_iconst (v := 0) dd_L_law_787 (by decide) ?_
                refine ev_lald dd_L_law_788 zs_124 za_124 ?_
                refine ev_iload dd_L_law_789 5 rfl ?_
                refine ev_lv (lv' := [(0, .ref G.2.2.2.2.2.1), (1, .ref (G.2.1 + 0)), (2, .ref (G.2.1 + 79)), (3, .ref (G.2.1 + 124)), (4, .int x4)]) [0, 1, 2, 3, 4] rfl ?_
                refine ev_i2l dd_L_law_791 ?_
                refine ev_lcmp dd_L_law_792 ?_
                refine ev_if_eq 798 dd_L_law_793 (by decide) ?_ ?_
                · exact hk10 _
                · refine ev_lv (lv' := [(0, .ref G.2.2.2.2.2.1), (1, .ref (G.2.1 + 0)), (2, .ref (G.2.1 + 79)), (3, .ref (G.2.1 + 124))]) [0, 1, 2, 3] rfl ?_
                  refine ev_iconst (v := 0) dd_L_law_796 (by decide) ?_
                  exact ev_zret dd_L_law_797 rfl (by show w + 2 ≤ 2100; omega) rfl
          · refine ev_lv (lv' := [(0, .ref G.2.2.2.2.2.1), (1, .ref (G.2.1 + 0)), (2, .ref (G.2.1 + 79)), (3, .ref (G.2.1 + 124))]) [0, 1, 2, 3] rfl ?_
            refine ev_iconst (v := 0) dd_L_law_779 (by decide) ?_
            exact ev_zret dd_L_law_780 rfl (by show w + 2 ≤ 2100; omega) rfl
        refine ev_it (fun hs11 => ?_) (fun hs11 => ?_)
        · refine ev_tabIn (off := 761) (tgt := 801) dd_L_law_40 10 hs11 (by decide +kernel) ?_
          refine ev_aload_n dd_L_law_801 1 rfl ?_
          refine ev_callVI (As := []) cl_RL_147 (ct_X11_year l hl G 0 zs_0 M) dd_L_law_802 zs_0 (by decide) (by show w + 0 ≤ 2100; omega) (Nat.le_of_ble_eq_true rfl) rfl rfl (fun r29 M38 => ?_)
          refine ev_aload_n dd_L_law_805 2 rfl ?_
          refine ev_callVI (As := []) cl_RL_150 (ct_X12_year l hl G 79 zs_79 M38) dd_L_law_806 zs_79 (by decide) (by show w + 0 ≤ 2100; omega) (Nat.le_of_ble_eq_true rfl) rfl rfl (fun r30 M39 => ?_)
          refine ev_icmp_eq 2261 dd_L_law_809 (by decide) ?_ ?_
          · refine ev_u (u' := w + 4) (by show w + 0 ≤ w + 4; omega) ?_
            exact hk1 _
          · refine ev_lv (lv' := [(0, .ref G.2.2.2.2.2.1), (1, .ref (G.2.1 + 0)), (2, .ref (G.2.1 + 79)), (3, .ref (G.2.1 + 124))]) [0, 1, 2, 3] rfl ?_
            refine ev_iconst (v := 0) dd_L_law_812 (by decide) ?_
            exact ev_zret dd_L_law_813 rfl (by show w + 0 ≤ 2100; omega) rfl
        refine ev_it (fun hs12 => ?_) (fun hs12 => ?_)
        · refine ev_tabIn (off := 774) (tgt := 814) dd_L_law_40 11 hs12 (by decide +kernel) ?_
          refine ev_aload_n dd_L_law_814 1 rfl ?_
          refine ev_aload_n dd_L_law_815 0 rfl ?_
          refine ev_iload dd_L_law_816 4 rfl ?_
          refine ev_iconst (v := 1) dd_L_law_818 (by decide) ?_
          refine ev_iadd dd_L_law_819 ?_
          refine ev_sld dd_L_law_820 ?_
          refine ev_aload_n dd_L_law_821 0 rfl ?_
          refine ev_iload dd_L_law_822 4 rfl ?_
          refine ev_iconst (v := 2) dd_L_law_824 (by decide) ?_
          refine ev_iadd dd_L_law_825 ?_
          refine ev_sld dd_L_law_826 ?_
          refine ev_aload_n dd_L_law_827 3 rfl ?_
          refine ev_callHI (u' := (w + 3)) (As := [.ref (G.2.1 + 0), .int (G.2.2.2.2.2.2.2 (zix (x4 + 1))), .int (G.2.2.2.2.2.2.2 (zix (x4 + 2))), .ref (G.2.1 + 124)]) cl_RL_151 (ct_L_forgive l hl G 0 zs_0 (G.2.2.2.2.2.2.2 (zix (x4 + 1))) (G.2.2.2.2.2.2.2 (zix (x4 + 2))) 124 zs_124 M) dd_L_law_828 (by decide) rfl (by show w + 3 ≤ 2100; omega) (Nat.le_of_ble_eq_true rfl) rfl rfl (fun r31 M40 => ?_)
          refine ev_istore (i := 5) (lv' := [(0, .ref G.2.2.2.2.2.1), (1, .ref (G.2.1 + 0)), (2, .ref (G.2.1 + 79)), (3, .ref (G.2.1 + 124)), (4, .int x4), (5, .int r31)]) [1, 2, 3, 4, 5, 0] dd_L_law_831 (by decide) rfl ?_
          refine ev_aload_n dd_L_law_833 2 rfl ?_
          refine ev_aload_n dd_L_law_834 0 rfl ?_
          refine ev_iload dd_L_law_835 4 rfl ?_
          refine ev_iconst (v := 1) dd_L_law_837 (by decide) ?_
          refine ev_iadd dd_L_law_838 ?_
          refine ev_sld dd_L_law_839 ?_
          refine ev_aload_n dd_L_law_840 0 rfl ?_
          refine ev_iload dd_L_law_841 4 rfl ?_
          refine ev_iconst (v := 2) dd_L_law_843 (by decide) ?_
          refine ev_iadd dd_L_law_844 ?_
          refine ev_sld dd_L_law_845 ?_
          refine ev_callVI (As := [.int (G.2.2.2.2.2.2.2 (zix (x4 + 1))), .int (G.2.2.2.2.2.2.2 (zix (x4 + 2)))]) cl_RL_153 (ct_X12_forgive l hl G 79 zs_79 (G.2.2.2.2.2.2.2 (zix (x4 + 1))) (G.2.2.2.2.2.2.2 (zix (x4 + 2))) M40) dd_L_law_846 zs_79 (by decide) (by show w + 3 ≤ 2100; omega) (Nat.le_of_ble_eq_true rfl) rfl rfl (fun r32 M41 => ?_)
          refine ev_istore (i := 6) (lv' := [(0, .ref G.2.2.2.2.2.1), (1, .ref (G.2.1 + 0)), (2, .ref (G.2.1 + 79)), (3, .ref (G.2.1 + 124)), (4, .int x4), (5, .int r31), (6, .int r32)]) [1, 2, 3, 4, 5, 6, 0] dd_L_law_849 (by decide) rfl ?_
          refine ev_aload_n dd_L_law_851 2 rfl ?_
          refine ev_callVI (As := []) cl_RL_117 (ct_X12_thrown l hl G 79 zs_79 M41) dd_L_law_852 zs_79 (by decide) (by show w + 3 ≤ 2100; omega) (Nat.le_of_ble_eq_true rfl) rfl rfl (fun r33 M42 => ?_)
          refine ev_iload dd_L_law_855 5 rfl ?_
          refine ev_icmp_eq 862 dd_L_law_857 (by decide) ?_ ?_
          · refine ev_iload dd_L_law_862 5 rfl ?_
            refine ev_lv (lv' := [(0, .ref G.2.2.2.2.2.1), (1, .ref (G.2.1 + 0)), (2, .ref (G.2.1 + 79)), (3, .ref (G.2.1 + 124)), (4, .int x4), (6, .int r32)]) [0, 1, 2, 3, 4, 6] rfl ?_
            refine ev_jo (fun (k11 : zM → zO) => ∀  (M43 : zM), zEv l G Y_L_law 200 (w + 3) 879 [(0, .ref G.2.2.2.2.2.1), (1, .ref (G.2.1 + 0)), (2, .ref (G.2.1 + 79)), (3, .ref (G.2.1 + 124)), (4, .int x4)] [] M43 (k11 M43)) ?_ (fun k11 hk11 => ?_)
            · intro M43
              refine ev_goto 2261 dd_L_law_879 (by decide) ?_
              refine ev_u (u' := w + 4) (by show w + 3 ≤ w + 4; omega) ?_
              exact hk1 _
            · refine ev_if_ne 879 dd_L_law_864 (by decide) ?_ ?_
              · refine ev_lv (lv' := [(0, .ref G.2.2.2.2.2.1), (1, .ref (G.2.1 + 0)), (2, .ref (G.2.1 + 79)), (3, .ref (G.2.1 + 124)), (4, .int x4)]) [0, 1, 2, 3, 4] rfl ?_
                exact hk11 _
              · refine ev_aload_n dd_L_law_867 3 rfl ?_
                refine ev_iconst (v := 0) dd_L_law_868 (by decide) ?_
                refine ev_lald dd_L_law_869 zs_124 za_124 ?_
                refine ev_iload dd_L_law_870 5 rfl ?_
                refine ev_lv (lv' := [(0, .ref G.2.2.2.2.2.1), (1, .ref (G.2.1 + 0)), (2, .ref (G.2.1 + 79)), (3, .ref (G.2.1 + 124)), (4, .int x4)]) [0, 1, 2, 3, 4] rfl ?_
                refine ev_i2l dd_L_law_872 ?_
                refine ev_lcmp dd_L_law_873 ?_
                refine ev_if_eq 879 dd_L_law_874 (by decide) ?_ ?_
                · exact hk11 _
                · refine ev_lv (lv' := [(0, .ref G.2.2.2.2.2.1), (1, .ref (G.2.1 + 0)), (2, .ref (G.2.1 + 79)), (3, .ref (G.2.1 + 124))]) [0, 1, 2, 3] rfl ?_
                  refine ev_iconst (v := 0) dd_L_law_877 (by decide) ?_
                  exact ev_zret dd_L_law_878 rfl (by show w + 3 ≤ 2100; omega) rfl
          · refine ev_lv (lv' := [(0, .ref G.2.2.2.2.2.1), (1, .ref (G.2.1 + 0)), (2, .ref (G.2.1 + 79)), (3, .ref (G.2.1 + 124))]) [0, 1, 2, 3] rfl ?_
            refine ev_iconst (v := 0) dd_L_law_860 (by decide) ?_
            exact ev_zret dd_L_law_861 rfl (by show w + 3 ≤ 2100; omega) rfl
        refine ev_it (fun hs13 => ?_) (fun hs13 => ?_)
        · refine ev_tabIn (off := 842) (tgt := 882) dd_L_law_40 12 hs13 (by decide +kernel) ?_
          refine ev_aload_n dd_L_law_882 1 rfl ?_
          refine ev_callVI (As := []) cl_RL_154 (ct_X11_undo l hl G 0 zs_0 M) dd_L_law_883 zs_0 (by decide) (by show w + 0 ≤ 2100; omega) (Nat.le_of_ble_eq_true rfl) rfl rfl (fun r34 M44 => ?_)
          refine ev_aload_n dd_L_law_886 2 rfl ?_
          refine ev_callVI (As := []) cl_RL_157 (ct_X12_undo l hl G 79 zs_79 M44) dd_L_law_887 zs_79 (by decide) (by show w + 0 ≤ 2100; omega) (Nat.le_of_ble_eq_true rfl) rfl rfl (fun r35 M45 => ?_)
          refine ev_icmp_eq 2261 dd_L_law_890 (by decide) ?_ ?_
          · refine ev_u (u' := w + 4) (by show w + 0 ≤ w + 4; omega) ?_
            exact hk1 _
          · refine ev_lv (lv' := [(0, .ref G.2.2.2.2.2.1), (1, .ref (G.2.1 + 0)), (2, .ref (G.2.1 + 79)), (3, .ref (G.2.1 + 124))]) [0, 1, 2, 3] rfl ?_
            refine ev_iconst (v := 0) dd_L_law_893 (by decide) ?_
            exact ev_zret dd_L_law_894 rfl (by show w + 0 ≤ 2100; omega) rfl
        refine ev_it (fun hs14 => ?_) (fun hs14 => ?_)
        · refine ev_tabIn (off := 855) (tgt := 895) dd_L_law_40 13 hs14 (by decide +kernel) ?_
          refine ev_aload_n dd_L_law_895 1 rfl ?_
          refine ev_aload_n dd_L_law_896 0 rfl ?_
          refine ev_iload dd_L_law_897 4 rfl ?_
          refine ev_iconst (v := 1) dd_L_law_899 (by decide) ?_
          refine ev_iadd dd_L_law_900 ?_
          refine ev_sld dd_L_law_901 ?_
          refine ev_aload_n dd_L_law_902 0 rfl ?_
          refine ev_iload dd_L_law_903 4 rfl ?_
          refine ev_iconst (v := 2) dd_L_law_905 (by decide) ?_
          refine ev_iadd dd_L_law_906 ?_
          refine ev_sld dd_L_law_907 ?_
          refine ev_aload_n dd_L_law_908 0 rfl ?_
          refine ev_iload dd_L_law_909 4 rfl ?_
          refine ev_iconst (v := 3) dd_L_law_911 (by decide) ?_
          refine ev_iadd dd_L_law_912 ?_
          refine ev_sld dd_L_law_913 ?_
          refine ev_aload_n dd_L_law_914 3 rfl ?_
          refine ev_callHI (u' := (w + 3)) (As := [.ref (G.2.1 + 0), .int (G.2.2.2.2.2.2.2 (zix (x4 + 1))), .int (G.2.2.2.2.2.2.2 (zix (x4 + 2))), .int (G.2.2.2.2.2.2.2 (zix (x4 + 3))), .ref (G.2.1 + 124)]) cl_RL_158 (ct_L_prefers l hl G 0 zs_0 (G.2.2.2.2.2.2.2 (zix (x4 + 1))) (G.2.2.2.2.2.2.2 (zix (x4 + 2))) (G.2.2.2.2.2.2.2 (zix (x4 + 3))) 124 zs_124 M) dd_L_law_915 (by decide) rfl (by show w + 3 ≤ 2100; omega) (Nat.le_of_ble_eq_true rfl) rfl rfl (fun r36 M46 => ?_)
          refine ev_istore (i := 5) (lv' := [(0, .ref G.2.2.2.2.2.1), (1, .ref (G.2.1 + 0)), (2, .ref (G.2.1 + 79)), (3, .ref (G.2.1 + 124)), (4, .int x4), (5, .int r36)]) [1, 2, 3, 4, 5, 0] dd_L_law_918 (by decide) rfl ?_
          refine ev_aload_n dd_L_law_920 2 rfl ?_
          refine ev_aload_n dd_L_law_921 0 rfl ?_
          refine ev_iload dd_L_law_922 4 rfl ?_
          refine ev_iconst (v := 1) dd_L_law_924 (by decide) ?_
          refine ev_iadd dd_L_law_925 ?_
          refine ev_sld dd_L_law_926 ?_
          refine ev_aload_n dd_L_law_927 0 rfl ?_
          refine ev_iload dd_L_law_928 4 rfl ?_
          refine ev_iconst (v := 2) dd_L_law_930 (by decide) ?_
          refine ev_iadd dd_L_law_931 ?_
          refine ev_sld dd_L_law_932 ?_
          refine ev_aload_n dd_L_law_933 0 rfl ?_
          refine ev_iload dd_L_law_934 4 rfl ?_
          refine ev_iconst (v := 3) dd_L_law_936 (by decide) ?_
          refine ev_iadd dd_L_law_937 ?_
          refine ev_sld dd_L_law_938 ?_
          refine ev_callVI (As := [.int (G.2.2.2.2.2.2.2 (zix (x4 + 1))), .int (G.2.2.2.2.2.2.2 (zix (x4 + 2))), .int (G.2.2.2.2.2.2.2 (zix (x4 + 3)))]) cl_RL_161 (ct_X12_prefers l hl G 79 zs_79 (G.2.2.2.2.2.2.2 (zix (x4 + 1))) (G.2.2.2.2.2.2.2 (zix (x4 + 2))) (G.2.2.2.2.2.2.2 (zix (x4 + 3))) M46) dd_L_law_939 zs_79 (by decide) (by show w + 3 ≤ 2100; omega) (Nat.le_of_ble_eq_true rfl) rfl rfl (fun r37 M47 => ?_)
          refine ev_istore (i := 6) (lv' := [(0, .ref G.2.2.2.2.2.1), (1, .ref (G.2.1 + 0)), (2, .ref (G.2.1 + 79)), (3, .ref (G.2.1 + 124)), (4, .int x4), (5, .int r36), (6, .int r37)]) [1, 2, 3, 4, 5, 6, 0] dd_L_law_942 (by decide) rfl ?_
          refine ev_aload_n dd_L_law_944 2 rfl ?_
          refine ev_callVI (As := []) cl_RL_117 (ct_X12_thrown l hl G 79 zs_79 M47) dd_L_law_945 zs_79 (by decide) (by show w + 3 ≤ 2100; omega) (Nat.le_of_ble_eq_true rfl) rfl rfl (fun r38 M48 => ?_)
          refine ev_iload dd_L_law_948 5 rfl ?_
          refine ev_icmp_eq 955 dd_L_law_950 (by decide) ?_ ?_
          · refine ev_iload dd_L_law_955 5 rfl ?_
            refine ev_lv (lv' := [(0, .ref G.2.2.2.2.2.1), (1, .ref (G.2.1 + 0)), (2, .ref (G.2.1 + 79)), (3, .ref (G.2.1 + 124)), (4, .int x4), (6, .int r37)]) [0, 1, 2, 3, 4, 6] rfl ?_
            refine ev_jo (fun (k12 : zM → zO) => ∀  (M50 : zM), zEv l G Y_L_law 200 (w + 3) 979 [(0, .ref G.2.2.2.2.2.1), (1, .ref (G.2.1 + 0)), (2, .ref (G.2.1 + 79)), (3, .ref (G.2.1 + 124)), (4, .int x4)] [] M50 (k12 M50)) ?_ (fun k12 hk12 => ?_)
            · intro M50
              refine ev_goto 2261 dd_L_law_979 (by decide) ?_
              refine ev_u (u' := w + 4) (by show w + 3 ≤ w + 4; omega) ?_
              exact hk1 _
            · refine ev_if_ne 979 dd_L_law_957 (by decide) ?_ ?_
              · refine ev_lv (lv' := [(0, .ref G.2.2.2.2.2.1), (1, .ref (G.2.1 + 0)), (2, .ref (G.2.1 + 79)), (3, .ref (G.2.1 + 124)), (4, .int x4)]) [0, 1, 2, 3, 4] rfl ?_
                exact hk12 _
              · refine ev_aload_n dd_L_law_960 3 rfl ?_
                refine ev_iconst (v := 0) dd_L_law_961 (by decide) ?_
                refine ev_lald dd_L_law_962 zs_124 za_124 ?_
                refine ev_iload dd_L_law_963 5 rfl ?_
                refine ev_lv (lv' := [(0, .ref G.2.2.2.2.2.1), (1, .ref (G.2.1 + 0)), (2, .ref (G.2.1 + 79)), (3, .ref (G.2.1 + 124)), (4, .int x4)]) [0, 1, 2, 3, 4] rfl ?_
                refine ev_jo (fun (k13 : Int64 → zM → zO) => ∀ (w2 : Int64) (M49 : zM), zEv l G Y_L_law 200 (w + 3) 973 [(0, .ref G.2.2.2.2.2.1), (1, .ref (G.2.1 + 0)), (2, .ref (G.2.1 + 79)), (3, .ref (G.2.1 + 124)), (4, .int x4)] [.long w2, .long (zgA M48 124 (zix 0))] M49 (k13 w2 M49)) ?_ (fun k13 hk13 => ?_)
                · intro w2 M49
                  refine ev_lcmp dd_L_law_973 ?_
                  refine ev_if_eq 979 dd_L_law_974 (by decide) ?_ ?_
                  · exact hk12 _
                  · refine ev_lv (lv' := [(0, .ref G.2.2.2.2.2.1), (1, .ref (G.2.1 + 0)), (2, .ref (G.2.1 + 79)), (3, .ref (G.2.1 + 124))]) [0, 1, 2, 3] rfl ?_
                    refine ev_iconst (v := 0) dd_L_law_977 (by decide) ?_
                    exact ev_zret dd_L_law_978 rfl (by show w + 3 ≤ 2100; omega) rfl
                · refine ev_if_eq 972 dd_L_law_965 (by decide) ?_ ?_
                  · refine ev_lconst (v := 0) dd_L_law_972 (by decide) ?_
                    exact hk13 _ _
                  · refine ev_lconst (v := 1) dd_L_law_968 (by decide) ?_
                    refine ev_goto 973 dd_L_law_969 (by decide) ?_
                    exact hk13 _ _
          · refine ev_lv (lv' := [(0, .ref G.2.2.2.2.2.1), (1, .ref (G.2.1 + 0)), (2, .ref (G.2.1 + 79)), (3, .ref (G.2.1 + 124))]) [0, 1, 2, 3] rfl ?_
            refine ev_iconst (v := 0) dd_L_law_953 (by decide) ?_
            exact ev_zret dd_L_law_954 rfl (by show w + 3 ≤ 2100; omega) rfl
        refine ev_it (fun hs15 => ?_) (fun hs15 => ?_)
        · refine ev_tabIn (off := 942) (tgt := 982) dd_L_law_40 14 hs15 (by decide +kernel) ?_
          refine ev_aload_n dd_L_law_982 1 rfl ?_
          refine ev_aload_n dd_L_law_983 0 rfl ?_
          refine ev_iload dd_L_law_984 4 rfl ?_
          refine ev_iconst (v := 1) dd_L_law_986 (by decide) ?_
          refine ev_iadd dd_L_law_987 ?_
          refine ev_sld dd_L_law_988 ?_
          refine ev_aload_n dd_L_law_989 3 rfl ?_
          refine ev_callHI (u' := (w + 1)) (As := [.ref (G.2.1 + 0), .int (G.2.2.2.2.2.2.2 (zix (x4 + 1))), .ref (G.2.1 + 124)]) cl_RL_162 (ct_L_glad l hl G 0 zs_0 (G.2.2.2.2.2.2.2 (zix (x4 + 1))) 124 zs_124 M) dd_L_law_990 (by decide) rfl (by show w + 1 ≤ 2100; omega) (Nat.le_of_ble_eq_true rfl) rfl rfl (fun r39 M51 => ?_)
          refine ev_istore (i := 5) (lv' := [(0, .ref G.2.2.2.2.2.1), (1, .ref (G.2.1 + 0)), (2, .ref (G.2.1 + 79)), (3, .ref (G.2.1 + 124)), (4, .int x4), (5, .int r39)]) [1, 2, 3, 4, 5, 0] dd_L_law_993 (by decide) rfl ?_
          refine ev_aload_n dd_L_law_995 2 rfl ?_
          refine ev_aload_n dd_L_law_996 0 rfl ?_
          refine ev_iload dd_L_law_997 4 rfl ?_
          refine ev_iconst (v := 1) dd_L_law_999 (by decide) ?_
          refine ev_iadd dd_L_law_1000 ?_
          refine ev_sld dd_L_law_1001 ?_
          refine ev_callVI (As := [.int (G.2.2.2.2.2.2.2 (zix (x4 + 1)))]) cl_RL_164 (ct_X12_glad l hl G 79 zs_79 (G.2.2.2.2.2.2.2 (zix (x4 + 1))) M51) dd_L_law_1002 zs_79 (by decide) (by show w + 1 ≤ 2100; omega) (Nat.le_of_ble_eq_true rfl) rfl rfl (fun r40 M52 => ?_)
          refine ev_istore (i := 6) (lv' := [(0, .ref G.2.2.2.2.2.1), (1, .ref (G.2.1 + 0)), (2, .ref (G.2.1 + 79)), (3, .ref (G.2.1 + 124)), (4, .int x4), (5, .int r39), (6, .int r40)]) [1, 2, 3, 4, 5, 6, 0] dd_L_law_1005 (by decide) rfl ?_
          refine ev_aload_n dd_L_law_1007 2 rfl ?_
          refine ev_callVI (As := []) cl_RL_117 (ct_X12_thrown l hl G 79 zs_79 M52) dd_L_law_1008 zs_79 (by decide) (by show w + 1 ≤ 2100; omega) (Nat.le_of_ble_eq_true rfl) rfl rfl (fun r41 M53 => ?_)
          refine ev_iload dd_L_law_1011 5 rfl ?_
          refine ev_icmp_eq 1018 dd_L_law_1013 (by decide) ?_ ?_
          · refine ev_iload dd_L_law_1018 5 rfl ?_
            refine ev_lv (lv' := [(0, .ref G.2.2.2.2.2.1), (1, .ref (G.2.1 + 0)), (2, .ref (G.2.1 + 79)), (3, .ref (G.2.1 + 124)), (4, .int x4), (6, .int r40)]) [0, 1, 2, 3, 4, 6] rfl ?_
            refine ev_jo (fun (k14 : zM → zO) => ∀  (M54 : zM), zEv l G Y_L_law 200 (w + 1) 1035 [(0, .ref G.2.2.2.2.2.1), (1, .ref (G.2.1 + 0)), (2, .ref (G.2.1 + 79)), (3, .ref (G.2.1 + 124)), (4, .int x4)] [] M54 (k14 M54)) ?_ (fun k14 hk14 => ?_)
            · intro M54
              refine ev_goto 2261 dd_L_law_1035 (by decide) ?_
              refine ev_u (u' := w + 4) (by show w + 1 ≤ w + 4; omega) ?_
              exact hk1 _
            · refine ev_if_ne 1035 dd_L_law_1020 (by decide) ?_ ?_
              · refine ev_lv (lv' := [(0, .ref G.2.2.2.2.2.1), (1, .ref (G.2.1 + 0)), (2, .ref (G.2.1 + 79)), (3, .ref (G.2.1 + 124)), (4, .int x4)]) [0, 1, 2, 3, 4] rfl ?_
                exact hk14 _
              · refine ev_aload_n dd_L_law_1023 3 rfl ?_
                refine ev_iconst (v := 0) dd_L_law_1024 (by decide) ?_
                refine ev_lald dd_L_law_1025 zs_124 za_124 ?_
                refine ev_iload dd_L_law_1026 5 rfl ?_
                refine ev_lv (lv' := [(0, .ref G.2.2.2.2.2.1), (1, .ref (G.2.1 + 0)), (2, .ref (G.2.1 + 79)), (3, .ref (G.2.1 + 124)), (4, .int x4)]) [0, 1, 2, 3, 4] rfl ?_
                refine ev_i2l dd_L_law_1028 ?_
                refine ev_lcmp dd_L_law_1029 ?_
                refine ev_if_eq 1035 dd_L_law_1030 (by decide) ?_ ?_
                · exact hk14 _
                · refine ev_lv (lv' := [(0, .ref G.2.2.2.2.2.1), (1, .ref (G.2.1 + 0)), (2, .ref (G.2.1 + 79)), (3, .ref (G.2.1 + 124))]) [0, 1, 2, 3] rfl ?_
                  refine ev_iconst (v := 0) dd_L_law_1033 (by decide) ?_
                  exact ev_zret dd_L_law_1034 rfl (by show w + 1 ≤ 2100; omega) rfl
          · refine ev_lv (lv' := [(0, .ref G.2.2.2.2.2.1), (1, .ref (G.2.1 + 0)), (2, .ref (G.2.1 + 79)), (3, .ref (G.2.1 + 124))]) [0, 1, 2, 3] rfl ?_
            refine ev_iconst (v := 0) dd_L_law_1016 (by decide) ?_
            exact ev_zret dd_L_law_1017 rfl (by show w + 1 ≤ 2100; omega) rfl
        refine ev_it (fun hs16 => ?_) (fun hs16 => ?_)
        · refine ev_tabIn (off := 998) (tgt := 1038) dd_L_law_40 15 hs16 (by decide +kernel) ?_
          refine ev_aload_n dd_L_law_1038 1 rfl ?_
          refine ev_aload_n dd_L_law_1039 0 rfl ?_
          refine ev_iload dd_L_law_1040 4 rfl ?_
          refine ev_iconst (v := 1) dd_L_law_1042 (by decide) ?_
          refine ev_iadd dd_L_law_1043 ?_
          refine ev_sld dd_L_law_1044 ?_
          refine ev_aload_n dd_L_law_1045 3 rfl ?_
          refine ev_callHI (u' := (w + 1)) (As := [.ref (G.2.1 + 0), .int (G.2.2.2.2.2.2.2 (zix (x4 + 1))), .ref (G.2.1 + 124)]) cl_RL_165 (ct_L_round l hl G 0 zs_0 (G.2.2.2.2.2.2.2 (zix (x4 + 1))) 124 zs_124 M) dd_L_law_1046 (by decide) rfl (by show w + 1 ≤ 2100; omega) (Nat.le_of_ble_eq_true rfl) rfl rfl (fun r42 M55 => ?_)
          refine ev_istore (i := 5) (lv' := [(0, .ref G.2.2.2.2.2.1), (1, .ref (G.2.1 + 0)), (2, .ref (G.2.1 + 79)), (3, .ref (G.2.1 + 124)), (4, .int x4), (5, .int r42)]) [1, 2, 3, 4, 5, 0] dd_L_law_1049 (by decide) rfl ?_
          refine ev_aload_n dd_L_law_1051 2 rfl ?_
          refine ev_aload_n dd_L_law_1052 0 rfl ?_
          refine ev_iload dd_L_law_1053 4 rfl ?_
          refine ev_iconst (v := 1) dd_L_law_1055 (by decide) ?_
          refine ev_iadd dd_L_law_1056 ?_
          refine ev_sld dd_L_law_1057 ?_
          refine ev_callVI (As := [.int (G.2.2.2.2.2.2.2 (zix (x4 + 1)))]) cl_RL_167 (ct_X12_round l hl G 79 zs_79 (G.2.2.2.2.2.2.2 (zix (x4 + 1))) M55) dd_L_law_1058 zs_79 (by decide) (by show w + 1 ≤ 2100; omega) (Nat.le_of_ble_eq_true rfl) rfl rfl (fun r43 M56 => ?_)
          refine ev_istore (i := 6) (lv' := [(0, .ref G.2.2.2.2.2.1), (1, .ref (G.2.1 + 0)), (2, .ref (G.2.1 + 79)), (3, .ref (G.2.1 + 124)), (4, .int x4), (5, .int r42), (6, .int r43)]) [1, 2, 3, 4, 5, 6, 0] dd_L_law_1061 (by decide) rfl ?_
          refine ev_aload_n dd_L_law_1063 2 rfl ?_
          refine ev_callVI (As := []) cl_RL_117 (ct_X12_thrown l hl G 79 zs_79 M56) dd_L_law_1064 zs_79 (by decide) (by show w + 1 ≤ 2100; omega) (Nat.le_of_ble_eq_true rfl) rfl rfl (fun r44 M57 => ?_)
          refine ev_iload dd_L_law_1067 5 rfl ?_
          refine ev_icmp_eq 1074 dd_L_law_1069 (by decide) ?_ ?_
          · refine ev_iload dd_L_law_1074 5 rfl ?_
            refine ev_lv (lv' := [(0, .ref G.2.2.2.2.2.1), (1, .ref (G.2.1 + 0)), (2, .ref (G.2.1 + 79)), (3, .ref (G.2.1 + 124)), (4, .int x4), (6, .int r43)]) [0, 1, 2, 3, 4, 6] rfl ?_
            refine ev_jo (fun (k15 : zM → zO) => ∀  (M58 : zM), zEv l G Y_L_law 200 (w + 1) 1091 [(0, .ref G.2.2.2.2.2.1), (1, .ref (G.2.1 + 0)), (2, .ref (G.2.1 + 79)), (3, .ref (G.2.1 + 124)), (4, .int x4)] [] M58 (k15 M58)) ?_ (fun k15 hk15 => ?_)
            · intro M58
              refine ev_goto 2261 dd_L_law_1091 (by decide) ?_
              refine ev_u (u' := w + 4) (by show w + 1 ≤ w + 4; omega) ?_
              exact hk1 _
            · refine ev_if_ne 1091 dd_L_law_1076 (by decide) ?_ ?_
              · refine ev_lv (lv' := [(0, .ref G.2.2.2.2.2.1), (1, .ref (G.2.1 + 0)), (2, .ref (G.2.1 + 79)), (3, .ref (G.2.1 + 124)), (4, .int x4)]) [0, 1, 2, 3, 4] rfl ?_
                exact hk15 _
              · refine ev_aload_n dd_L_law_1079 3 rfl ?_
                refine ev_iconst (v := 0) dd_L_law_1080 (by decide) ?_
                refine ev_lald dd_L_law_1081 zs_124 za_124 ?_
                refine ev_iload dd_L_law_1082 5 rfl ?_
                refine ev_lv (lv' := [(0, .ref G.2.2.2.2.2.1), (1, .ref (G.2.1 + 0)), (2, .ref (G.2.1 + 79)), (3, .ref (G.2.1 + 124)), (4, .int x4)]) [0, 1, 2, 3, 4] rfl ?_
                refine ev_i2l dd_L_law_1084 ?_
                refine ev_lcmp dd_L_law_1085 ?_
                refine ev_if_eq 1091 dd_L_law_1086 (by decide) ?_ ?_
                · exact hk15 _
                · refine ev_lv (lv' := [(0, .ref G.2.2.2.2.2.1), (1, .ref (G.2.1 + 0)), (2, .ref (G.2.1 + 79)), (3, .ref (G.2.1 + 124))]) [0, 1, 2, 3] rfl ?_
                  refine ev_iconst (v := 0) dd_L_law_1089 (by decide) ?_
                  exact ev_zret dd_L_law_1090 rfl (by show w + 1 ≤ 2100; omega) rfl
          · refine ev_lv (lv' := [(0, .ref G.2.2.2.2.2.1), (1, .ref (G.2.1 + 0)), (2, .ref (G.2.1 + 79)), (3, .ref (G.2.1 + 124))]) [0, 1, 2, 3] rfl ?_
            refine ev_iconst (v := 0) dd_L_law_1072 (by decide) ?_
            exact ev_zret dd_L_law_1073 rfl (by show w + 1 ≤ 2100; omega) rfl
        refine ev_it (fun hs17 => ?_) (fun hs17 => ?_)
        · refine ev_tabIn (off := 1054) (tgt := 1094) dd_L_law_40 16 hs17 (by decide +kernel) ?_
          refine ev_aload_n dd_L_law_1094 1 rfl ?_
          refine ev_callVI (As := []) cl_RL_168 (ct_X11_leave l hl G 0 zs_0 M) dd_L_law_1095 zs_0 (by decide) (by show w + 0 ≤ 2100; omega) (Nat.le_of_ble_eq_true rfl) rfl rfl (fun r45 M59 => ?_)
          refine ev_aload_n dd_L_law_1098 2 rfl ?_
          refine ev_callVI (As := []) cl_RL_171 (ct_X12_leave l hl G 79 zs_79 M59) dd_L_law_1099 zs_79 (by decide) (by show w + 0 ≤ 2100; omega) (Nat.le_of_ble_eq_true rfl) rfl rfl (fun r46 M60 => ?_)
          refine ev_icmp_eq 2261 dd_L_law_1102 (by decide) ?_ ?_
          · refine ev_u (u' := w + 4) (by show w + 0 ≤ w + 4; omega) ?_
            exact hk1 _
          · refine ev_lv (lv' := [(0, .ref G.2.2.2.2.2.1), (1, .ref (G.2.1 + 0)), (2, .ref (G.2.1 + 79)), (3, .ref (G.2.1 + 124))]) [0, 1, 2, 3] rfl ?_
            refine ev_iconst (v := 0) dd_L_law_1105 (by decide) ?_
            exact ev_zret dd_L_law_1106 rfl (by show w + 0 ≤ 2100; omega) rfl
        refine ev_it (fun hs18 => ?_) (fun hs18 => ?_)
        · refine ev_tabIn (off := 1067) (tgt := 1107) dd_L_law_40 17 hs18 (by decide +kernel) ?_
          refine ev_aload_n dd_L_law_1107 1 rfl ?_
          refine ev_aload_n dd_L_law_1108 0 rfl ?_
          refine ev_iload dd_L_law_1109 4 rfl ?_
          refine ev_iconst (v := 1) dd_L_law_1111 (by decide) ?_
          refine ev_iadd dd_L_law_1112 ?_
          refine ev_sld dd_L_law_1113 ?_
          refine ev_aload_n dd_L_law_1114 0 rfl ?_
          refine ev_iload dd_L_law_1115 4 rfl ?_
          refine ev_iconst (v := 2) dd_L_law_1117 (by decide) ?_
          refine ev_iadd dd_L_law_1118 ?_
          refine ev_sld dd_L_law_1119 ?_
          refine ev_aload_n dd_L_law_1120 3 rfl ?_
          refine ev_callHI (u' := (w + 1)) (As := [.ref (G.2.1 + 0), .int (G.2.2.2.2.2.2.2 (zix (x4 + 1))), .int (G.2.2.2.2.2.2.2 (zix (x4 + 2))), .ref (G.2.1 + 124)]) cl_RL_172 (ct_L_swaps l hl G 0 zs_0 (G.2.2.2.2.2.2.2 (zix (x4 + 1))) (G.2.2.2.2.2.2.2 (zix (x4 + 2))) 124 zs_124 M) dd_L_law_1121 (by decide) rfl (by show w + 1 ≤ 2100; omega) (Nat.le_of_ble_eq_true rfl) rfl rfl (fun r47 M61 => ?_)
          refine ev_istore (i := 5) (lv' := [(0, .ref G.2.2.2.2.2.1), (1, .ref (G.2.1 + 0)), (2, .ref (G.2.1 + 79)), (3, .ref (G.2.1 + 124)), (4, .int x4), (5, .int r47)]) [1, 2, 3, 4, 5, 0] dd_L_law_1124 (by decide) rfl ?_
          refine ev_aload_n dd_L_law_1126 2 rfl ?_
          refine ev_aload_n dd_L_law_1127 0 rfl ?_
          refine ev_iload dd_L_law_1128 4 rfl ?_
          refine ev_iconst (v := 1) dd_L_law_1130 (by decide) ?_
          refine ev_iadd dd_L_law_1131 ?_
          refine ev_sld dd_L_law_1132 ?_
          refine ev_aload_n dd_L_law_1133 0 rfl ?_
          refine ev_iload dd_L_law_1134 4 rfl ?_
          refine ev_iconst (v := 2) dd_L_law_1136 (by decide) ?_
          refine ev_iadd dd_L_law_1137 ?_
          refine ev_sld dd_L_law_1138 ?_
          refine ev_callVI (As := [.int (G.2.2.2.2.2.2.2 (zix (x4 + 1))), .int (G.2.2.2.2.2.2.2 (zix (x4 + 2)))]) cl_RL_174 (ct_X12_swaps l hl G 79 zs_79 (G.2.2.2.2.2.2.2 (zix (x4 + 1))) (G.2.2.2.2.2.2.2 (zix (x4 + 2))) M61) dd_L_law_1139 zs_79 (by decide) (by show w + 1 ≤ 2100; omega) (Nat.le_of_ble_eq_true rfl) rfl rfl (fun r48 M62 => ?_)
          refine ev_istore (i := 6) (lv' := [(0, .ref G.2.2.2.2.2.1), (1, .ref (G.2.1 + 0)), (2, .ref (G.2.1 + 79)), (3, .ref (G.2.1 + 124)), (4, .int x4), (5, .int r47), (6, .int r48)]) [1, 2, 3, 4, 5, 6, 0] dd_L_law_1142 (by decide) rfl ?_
          refine ev_aload_n dd_L_law_1144 2 rfl ?_
          refine ev_callVI (As := []) cl_RL_117 (ct_X12_thrown l hl G 79 zs_79 M62) dd_L_law_1145 zs_79 (by decide) (by show w + 1 ≤ 2100; omega) (Nat.le_of_ble_eq_true rfl) rfl rfl (fun r49 M63 => ?_)
          refine ev_iload dd_L_law_1148 5 rfl ?_
          refine ev_icmp_eq 1155 dd_L_law_1150 (by decide) ?_ ?_
          · refine ev_iload dd_L_law_1155 5 rfl ?_
            refine ev_lv (lv' := [(0, .ref G.2.2.2.2.2.1), (1, .ref (G.2.1 + 0)), (2, .ref (G.2.1 + 79)), (3, .ref (G.2.1 + 124)), (4, .int x4), (6, .int r48)]) [0, 1, 2, 3, 4, 6] rfl ?_
            refine ev_jo (fun (k16 : zM → zO) => ∀  (M64 : zM), zEv l G Y_L_law 200 (w + 1) 1172 [(0, .ref G.2.2.2.2.2.1), (1, .ref (G.2.1 + 0)), (2, .ref (G.2.1 + 79)), (3, .ref (G.2.1 + 124)), (4, .int x4)] [] M64 (k16 M64)) ?_ (fun k16 hk16 => ?_)
            · intro M64
              refine ev_goto 2261 dd_L_law_1172 (by decide) ?_
              refine ev_u (u' := w + 4) (by show w + 1 ≤ w + 4; omega) ?_
              exact hk1 _
            · refine ev_if_ne 1172 dd_L_law_1157 (by decide) ?_ ?_
              · refine ev_lv (lv' := [(0, .ref G.2.2.2.2.2.1), (1, .ref (G.2.1 + 0)), (2, .ref (G.2.1 + 79)), (3, .ref (G.2.1 + 124)), (4, .int x4)]) [0, 1, 2, 3, 4] rfl ?_
                exact hk16 _
              · refine ev_aload_n dd_L_law_1160 3 rfl ?_
                refine ev_iconst (v := 0) dd_L_law_1161 (by decide) ?_
                refine ev_lald dd_L_law_1162 zs_124 za_124 ?_
                refine ev_iload dd_L_law_1163 5 rfl ?_
                refine ev_lv (lv' := [(0, .ref G.2.2.2.2.2.1), (1, .ref (G.2.1 + 0)), (2, .ref (G.2.1 + 79)), (3, .ref (G.2.1 + 124)), (4, .int x4)]) [0, 1, 2, 3, 4] rfl ?_
                refine ev_i2l dd_L_law_1165 ?_
                refine ev_lcmp dd_L_law_1166 ?_
                refine ev_if_eq 1172 dd_L_law_1167 (by decide) ?_ ?_
                · exact hk16 _
                · refine ev_lv (lv' := [(0, .ref G.2.2.2.2.2.1), (1, .ref (G.2.1 + 0)), (2, .ref (G.2.1 + 79)), (3, .ref (G.2.1 + 124))]) [0, 1, 2, 3] rfl ?_
                  refine ev_iconst (v := 0) dd_L_law_1170 (by decide) ?_
                  exact ev_zret dd_L_law_1171 rfl (by show w + 1 ≤ 2100; omega) rfl
          · refine ev_lv (lv' := [(0, .ref G.2.2.2.2.2.1), (1, .ref (G.2.1 + 0)), (2, .ref (G.2.1 + 79)), (3, .ref (G.2.1 + 124))]) [0, 1, 2, 3] rfl ?_
            refine ev_iconst (v := 0) dd_L_law_1153 (by decide) ?_
            exact ev_zret dd_L_law_1154 rfl (by show w + 1 ≤ 2100; omega) rfl
        refine ev_it (fun hs19 => ?_) (fun hs19 => ?_)
        · refine ev_tabIn (off := 1135) (tgt := 1175) dd_L_law_40 18 hs19 (by decide +kernel) ?_
          refine ev_aload_n dd_L_law_1175 1 rfl ?_
          refine ev_aload_n dd_L_law_1176 0 rfl ?_
          refine ev_iload dd_L_law_1177 4 rfl ?_
          refine ev_iconst (v := 1) dd_L_law_1179 (by decide) ?_
          refine ev_iadd dd_L_law_1180 ?_
          refine ev_sld dd_L_law_1181 ?_
          refine ev_aload_n dd_L_law_1182 0 rfl ?_
          refine ev_iload dd_L_law_1183 4 rfl ?_
          refine ev_iconst (v := 2) dd_L_law_1185 (by decide) ?_
          refine ev_iadd dd_L_law_1186 ?_
          refine ev_sld dd_L_law_1187 ?_
          refine ev_aload_n dd_L_law_1188 0 rfl ?_
          refine ev_iload dd_L_law_1189 4 rfl ?_
          refine ev_iconst (v := 3) dd_L_law_1191 (by decide) ?_
          refine ev_iadd dd_L_law_1192 ?_
          refine ev_sld dd_L_law_1193 ?_
          refine ev_aload_n dd_L_law_1194 3 rfl ?_
          refine ev_callHI (u' := (w + 3)) (As := [.ref (G.2.1 + 0), .int (G.2.2.2.2.2.2.2 (zix (x4 + 1))), .int (G.2.2.2.2.2.2.2 (zix (x4 + 2))), .int (G.2.2.2.2.2.2.2 (zix (x4 + 3))), .ref (G.2.1 + 124)]) cl_RL_175 (ct_L_ship l hl G 0 zs_0 (G.2.2.2.2.2.2.2 (zix (x4 + 1))) (G.2.2.2.2.2.2.2 (zix (x4 + 2))) (G.2.2.2.2.2.2.2 (zix (x4 + 3))) 124 zs_124 M) dd_L_law_1195 (by decide) rfl (by show w + 3 ≤ 2100; omega) (Nat.le_of_ble_eq_true rfl) rfl rfl (fun r50 M65 => ?_)
          refine ev_istore (i := 5) (lv' := [(0, .ref G.2.2.2.2.2.1), (1, .ref (G.2.1 + 0)), (2, .ref (G.2.1 + 79)), (3, .ref (G.2.1 + 124)), (4, .int x4), (5, .int r50)]) [1, 2, 3, 4, 5, 0] dd_L_law_1198 (by decide) rfl ?_
          refine ev_aload_n dd_L_law_1200 2 rfl ?_
          refine ev_aload_n dd_L_law_1201 0 rfl ?_
          refine ev_iload dd_L_law_1202 4 rfl ?_
          refine ev_iconst (v := 1) dd_L_law_1204 (by decide) ?_
          refine ev_iadd dd_L_law_1205 ?_
          refine ev_sld dd_L_law_1206 ?_
          refine ev_aload_n dd_L_law_1207 0 rfl ?_
          refine ev_iload dd_L_law_1208 4 rfl ?_
          refine ev_iconst (v := 2) dd_L_law_1210 (by decide) ?_
          refine ev_iadd dd_L_law_1211 ?_
          refine ev_sld dd_L_law_1212 ?_
          refine ev_aload_n dd_L_law_1213 0 rfl ?_
          refine ev_iload dd_L_law_1214 4 rfl ?_
          refine ev_iconst (v := 3) dd_L_law_1216 (by decide) ?_
          refine ev_iadd dd_L_law_1217 ?_
          refine ev_sld dd_L_law_1218 ?_
          refine ev_callVI (As := [.int (G.2.2.2.2.2.2.2 (zix (x4 + 1))), .int (G.2.2.2.2.2.2.2 (zix (x4 + 2))), .int (G.2.2.2.2.2.2.2 (zix (x4 + 3)))]) cl_RL_177 (ct_X12_ship l hl G 79 zs_79 (G.2.2.2.2.2.2.2 (zix (x4 + 1))) (G.2.2.2.2.2.2.2 (zix (x4 + 2))) (G.2.2.2.2.2.2.2 (zix (x4 + 3))) M65) dd_L_law_1219 zs_79 (by decide) (by show w + 3 ≤ 2100; omega) (Nat.le_of_ble_eq_true rfl) rfl rfl (fun r51 M66 => ?_)
          refine ev_istore (i := 6) (lv' := [(0, .ref G.2.2.2.2.2.1), (1, .ref (G.2.1 + 0)), (2, .ref (G.2.1 + 79)), (3, .ref (G.2.1 + 124)), (4, .int x4), (5, .int r50), (6, .int r51)]) [1, 2, 3, 4, 5, 6, 0] dd_L_law_1222 (by decide) rfl ?_
          refine ev_aload_n dd_L_law_1224 2 rfl ?_
          refine ev_callVI (As := []) cl_RL_117 (ct_X12_thrown l hl G 79 zs_79 M66) dd_L_law_1225 zs_79 (by decide) (by show w + 3 ≤ 2100; omega) (Nat.le_of_ble_eq_true rfl) rfl rfl (fun r52 M67 => ?_)
          refine ev_iload dd_L_law_1228 5 rfl ?_
          refine ev_icmp_eq 1235 dd_L_law_1230 (by decide) ?_ ?_
          · refine ev_iload dd_L_law_1235 5 rfl ?_
            refine ev_lv (lv' := [(0, .ref G.2.2.2.2.2.1), (1, .ref (G.2.1 + 0)), (2, .ref (G.2.1 + 79)), (3, .ref (G.2.1 + 124)), (4, .int x4), (6, .int r51)]) [0, 1, 2, 3, 4, 6] rfl ?_
            refine ev_jo (fun (k17 : zM → zO) => ∀  (M68 : zM), zEv l G Y_L_law 200 (w + 3) 1252 [(0, .ref G.2.2.2.2.2.1), (1, .ref (G.2.1 + 0)), (2, .ref (G.2.1 + 79)), (3, .ref (G.2.1 + 124)), (4, .int x4)] [] M68 (k17 M68)) ?_ (fun k17 hk17 => ?_)
            · intro M68
              refine ev_goto 2261 dd_L_law_1252 (by decide) ?_
              refine ev_u (u' := w + 4) (by show w + 3 ≤ w + 4; omega) ?_
              exact hk1 _
            · refine ev_if_ne 1252 dd_L_law_1237 (by decide) ?_ ?_
              · refine ev_lv (lv' := [(0, .ref G.2.2.2.2.2.1), (1, .ref (G.2.1 + 0)), (2, .ref (G.2.1 + 79)), (3, .ref (G.2.1 + 124)), (4, .int x4)]) [0, 1, 2, 3, 4] rfl ?_
                exact hk17 _
              · refine ev_aload_n dd_L_law_1240 3 rfl ?_
                refine ev_iconst (v := 0) dd_L_law_1241 (by decide) ?_
                refine ev_lald dd_L_law_1242 zs_124 za_124 ?_
                refine ev_iload dd_L_law_1243 5 rfl ?_
                refine ev_lv (lv' := [(0, .ref G.2.2.2.2.2.1), (1, .ref (G.2.1 + 0)), (2, .ref (G.2.1 + 79)), (3, .ref (G.2.1 + 124)), (4, .int x4)]) [0, 1, 2, 3, 4] rfl ?_
                refine ev_i2l dd_L_law_1245 ?_
                refine ev_lcmp dd_L_law_1246 ?_
                refine ev_if_eq 1252 dd_L_law_1247 (by decide) ?_ ?_
                · exact hk17 _
                · refine ev_lv (lv' := [(0, .ref G.2.2.2.2.2.1), (1, .ref (G.2.1 + 0)), (2, .ref (G.2.1 + 79)), (3, .ref (G.2.1 + 124))]) [0, 1, 2, 3] rfl ?_
                  refine ev_iconst (v := 0) dd_L_law_1250 (by decide) ?_
                  exact ev_zret dd_L_law_1251 rfl (by show w + 3 ≤ 2100; omega) rfl
          · refine ev_lv (lv' := [(0, .ref G.2.2.2.2.2.1), (1, .ref (G.2.1 + 0)), (2, .ref (G.2.1 + 79)), (3, .ref (G.2.1 + 124))]) [0, 1, 2, 3] rfl ?_
            refine ev_iconst (v := 0) dd_L_law_1233 (by decide) ?_
            exact ev_zret dd_L_law_1234 rfl (by show w + 3 ≤ 2100; omega) rfl
        refine ev_it (fun hs20 => ?_) (fun hs20 => ?_)
        · refine ev_tabIn (off := 1215) (tgt := 1255) dd_L_law_40 19 hs20 (by decide +kernel) ?_
          refine ev_aload_n dd_L_law_1255 1 rfl ?_
          refine ev_aload_n dd_L_law_1256 0 rfl ?_
          refine ev_iload dd_L_law_1257 4 rfl ?_
          refine ev_iconst (v := 1) dd_L_law_1259 (by decide) ?_
          refine ev_iadd dd_L_law_1260 ?_
          refine ev_sld dd_L_law_1261 ?_
          refine ev_aload_n dd_L_law_1262 0 rfl ?_
          refine ev_iload dd_L_law_1263 4 rfl ?_
          refine ev_iconst (v := 2) dd_L_law_1265 (by decide) ?_
          refine ev_iadd dd_L_law_1266 ?_
          refine ev_sld dd_L_law_1267 ?_
          refine ev_aload_n dd_L_law_1268 0 rfl ?_
          refine ev_iload dd_L_law_1269 4 rfl ?_
          refine ev_iconst (v := 3) dd_L_law_1271 (by decide) ?_
          refine ev_iadd dd_L_law_1272 ?_
          refine ev_sld dd_L_law_1273 ?_
          refine ev_aload_n dd_L_law_1274 3 rfl ?_
          refine ev_callHI (u' := (w + 4)) (As := [.ref (G.2.1 + 0), .int (G.2.2.2.2.2.2.2 (zix (x4 + 1))), .int (G.2.2.2.2.2.2.2 (zix (x4 + 2))), .int (G.2.2.2.2.2.2.2 (zix (x4 + 3))), .ref (G.2.1 + 124)]) cl_RL_178 (ct_L_joined l hl G 0 zs_0 (G.2.2.2.2.2.2.2 (zix (x4 + 1))) (G.2.2.2.2.2.2.2 (zix (x4 + 2))) (G.2.2.2.2.2.2.2 (zix (x4 + 3))) 124 zs_124 M) dd_L_law_1275 (by decide) rfl (by show w + 4 ≤ 2100; omega) (Nat.le_of_ble_eq_true rfl) rfl rfl (fun r53 M69 => ?_)
          refine ev_istore (i := 5) (lv' := [(0, .ref G.2.2.2.2.2.1), (1, .ref (G.2.1 + 0)), (2, .ref (G.2.1 + 79)), (3, .ref (G.2.1 + 124)), (4, .int x4), (5, .int r53)]) [1, 2, 3, 4, 5, 0] dd_L_law_1278 (by decide) rfl ?_
          refine ev_aload_n dd_L_law_1280 2 rfl ?_
          refine ev_aload_n dd_L_law_1281 0 rfl ?_
          refine ev_iload dd_L_law_1282 4 rfl ?_
          refine ev_iconst (v := 1) dd_L_law_1284 (by decide) ?_
          refine ev_iadd dd_L_law_1285 ?_
          refine ev_sld dd_L_law_1286 ?_
          refine ev_aload_n dd_L_law_1287 0 rfl ?_
          refine ev_iload dd_L_law_1288 4 rfl ?_
          refine ev_iconst (v := 2) dd_L_law_1290 (by decide) ?_
          refine ev_iadd dd_L_law_1291 ?_
          refine ev_sld dd_L_law_1292 ?_
          refine ev_aload_n dd_L_law_1293 0 rfl ?_
          refine ev_iload dd_L_law_1294 4 rfl ?_
          refine ev_iconst (v := 3) dd_L_law_1296 (by decide) ?_
          refine ev_iadd dd_L_law_1297 ?_
          refine ev_sld dd_L_law_1298 ?_
          refine ev_callVI (As := [.int (G.2.2.2.2.2.2.2 (zix (x4 + 1))), .int (G.2.2.2.2.2.2.2 (zix (x4 + 2))), .int (G.2.2.2.2.2.2.2 (zix (x4 + 3)))]) cl_RL_180 (ct_X12_joined l hl G 79 zs_79 (G.2.2.2.2.2.2.2 (zix (x4 + 1))) (G.2.2.2.2.2.2.2 (zix (x4 + 2))) (G.2.2.2.2.2.2.2 (zix (x4 + 3))) M69) dd_L_law_1299 zs_79 (by decide) (by show w + 4 ≤ 2100; omega) (Nat.le_of_ble_eq_true rfl) rfl rfl (fun r54 M70 => ?_)
          refine ev_istore (i := 6) (lv' := [(0, .ref G.2.2.2.2.2.1), (1, .ref (G.2.1 + 0)), (2, .ref (G.2.1 + 79)), (3, .ref (G.2.1 + 124)), (4, .int x4), (5, .int r53), (6, .int r54)]) [1, 2, 3, 4, 5, 6, 0] dd_L_law_1302 (by decide) rfl ?_
          refine ev_aload_n dd_L_law_1304 2 rfl ?_
          refine ev_callVI (As := []) cl_RL_117 (ct_X12_thrown l hl G 79 zs_79 M70) dd_L_law_1305 zs_79 (by decide) (by show w + 4 ≤ 2100; omega) (Nat.le_of_ble_eq_true rfl) rfl rfl (fun r55 M71 => ?_)
          refine ev_iload dd_L_law_1308 5 rfl ?_
          refine ev_icmp_eq 1315 dd_L_law_1310 (by decide) ?_ ?_
          · refine ev_iload dd_L_law_1315 5 rfl ?_
            refine ev_lv (lv' := [(0, .ref G.2.2.2.2.2.1), (1, .ref (G.2.1 + 0)), (2, .ref (G.2.1 + 79)), (3, .ref (G.2.1 + 124)), (4, .int x4), (6, .int r54)]) [0, 1, 2, 3, 4, 6] rfl ?_
            refine ev_jo (fun (k18 : zM → zO) => ∀  (M72 : zM), zEv l G Y_L_law 200 (w + 4) 1332 [(0, .ref G.2.2.2.2.2.1), (1, .ref (G.2.1 + 0)), (2, .ref (G.2.1 + 79)), (3, .ref (G.2.1 + 124)), (4, .int x4)] [] M72 (k18 M72)) ?_ (fun k18 hk18 => ?_)
            · intro M72
              refine ev_goto 2261 dd_L_law_1332 (by decide) ?_
              exact hk1 _
            · refine ev_if_ne 1332 dd_L_law_1317 (by decide) ?_ ?_
              · refine ev_lv (lv' := [(0, .ref G.2.2.2.2.2.1), (1, .ref (G.2.1 + 0)), (2, .ref (G.2.1 + 79)), (3, .ref (G.2.1 + 124)), (4, .int x4)]) [0, 1, 2, 3, 4] rfl ?_
                exact hk18 _
              · refine ev_aload_n dd_L_law_1320 3 rfl ?_
                refine ev_iconst (v := 0) dd_L_law_1321 (by decide) ?_
                refine ev_lald dd_L_law_1322 zs_124 za_124 ?_
                refine ev_iload dd_L_law_1323 5 rfl ?_
                refine ev_lv (lv' := [(0, .ref G.2.2.2.2.2.1), (1, .ref (G.2.1 + 0)), (2, .ref (G.2.1 + 79)), (3, .ref (G.2.1 + 124)), (4, .int x4)]) [0, 1, 2, 3, 4] rfl ?_
                refine ev_i2l dd_L_law_1325 ?_
                refine ev_lcmp dd_L_law_1326 ?_
                refine ev_if_eq 1332 dd_L_law_1327 (by decide) ?_ ?_
                · exact hk18 _
                · refine ev_lv (lv' := [(0, .ref G.2.2.2.2.2.1), (1, .ref (G.2.1 + 0)), (2, .ref (G.2.1 + 79)), (3, .ref (G.2.1 + 124))]) [0, 1, 2, 3] rfl ?_
                  refine ev_iconst (v := 0) dd_L_law_1330 (by decide) ?_
                  exact ev_zret dd_L_law_1331 rfl (by show w + 4 ≤ 2100; omega) rfl
          · refine ev_lv (lv' := [(0, .ref G.2.2.2.2.2.1), (1, .ref (G.2.1 + 0)), (2, .ref (G.2.1 + 79)), (3, .ref (G.2.1 + 124))]) [0, 1, 2, 3] rfl ?_
            refine ev_iconst (v := 0) dd_L_law_1313 (by decide) ?_
            exact ev_zret dd_L_law_1314 rfl (by show w + 4 ≤ 2100; omega) rfl
        refine ev_it (fun hs21 => ?_) (fun hs21 => ?_)
        · refine ev_tabIn (off := 1295) (tgt := 1335) dd_L_law_40 20 hs21 (by decide +kernel) ?_
          refine ev_aload_n dd_L_law_1335 1 rfl ?_
          refine ev_aload_n dd_L_law_1336 0 rfl ?_
          refine ev_iload dd_L_law_1337 4 rfl ?_
          refine ev_iconst (v := 1) dd_L_law_1339 (by decide) ?_
          refine ev_iadd dd_L_law_1340 ?_
          refine ev_sld dd_L_law_1341 ?_
          refine ev_aload_n dd_L_law_1342 0 rfl ?_
          refine ev_iload dd_L_law_1343 4 rfl ?_
          refine ev_iconst (v := 2) dd_L_law_1345 (by decide) ?_
          refine ev_iadd dd_L_law_1346 ?_
          refine ev_sld dd_L_law_1347 ?_
          refine ev_aload_n dd_L_law_1348 3 rfl ?_
          refine ev_callHI (u' := (w + 2)) (As := [.ref (G.2.1 + 0), .int (G.2.2.2.2.2.2.2 (zix (x4 + 1))), .int (G.2.2.2.2.2.2.2 (zix (x4 + 2))), .ref (G.2.1 + 124)]) cl_RL_181 (ct_L_inside l hl G 0 zs_0 (G.2.2.2.2.2.2.2 (zix (x4 + 1))) (G.2.2.2.2.2.2.2 (zix (x4 + 2))) 124 zs_124 M) dd_L_law_1349 (by decide) rfl (by show w + 2 ≤ 2100; omega) (Nat.le_of_ble_eq_true rfl) rfl rfl (fun r56 M73 => ?_)
          refine ev_istore (i := 5) (lv' := [(0, .ref G.2.2.2.2.2.1), (1, .ref (G.2.1 + 0)), (2, .ref (G.2.1 + 79)), (3, .ref (G.2.1 + 124)), (4, .int x4), (5, .int r56)]) [1, 2, 3, 4, 5, 0] dd_L_law_1352 (by decide) rfl ?_
          refine ev_aload_n dd_L_law_1354 2 rfl ?_
          refine ev_aload_n dd_L_law_1355 0 rfl ?_
          refine ev_iload dd_L_law_1356 4 rfl ?_
          refine ev_iconst (v := 1) dd_L_law_1358 (by decide) ?_
          refine ev_iadd dd_L_law_1359 ?_
          refine ev_sld dd_L_law_1360 ?_
          refine ev_aload_n dd_L_law_1361 0 rfl ?_
          refine ev_iload dd_L_law_1362 4 rfl ?_
          refine ev_iconst (v := 2) dd_L_law_1364 (by decide) ?_
          refine ev_iadd dd_L_law_1365 ?_
          refine ev_sld dd_L_law_1366 ?_
          refine ev_callVI (As := [.int (G.2.2.2.2.2.2.2 (zix (x4 + 1))), .int (G.2.2.2.2.2.2.2 (zix (x4 + 2)))]) cl_RL_183 (ct_X12_inside l hl G 79 zs_79 (G.2.2.2.2.2.2.2 (zix (x4 + 1))) (G.2.2.2.2.2.2.2 (zix (x4 + 2))) M73) dd_L_law_1367 zs_79 (by decide) (by show w + 2 ≤ 2100; omega) (Nat.le_of_ble_eq_true rfl) rfl rfl (fun r57 M74 => ?_)
          refine ev_istore (i := 6) (lv' := [(0, .ref G.2.2.2.2.2.1), (1, .ref (G.2.1 + 0)), (2, .ref (G.2.1 + 79)), (3, .ref (G.2.1 + 124)), (4, .int x4), (5, .int r56), (6, .int r57)]) [1, 2, 3, 4, 5, 6, 0] dd_L_law_1370 (by decide) rfl ?_
          refine ev_aload_n dd_L_law_1372 2 rfl ?_
          refine ev_callVI (As := []) cl_RL_117 (ct_X12_thrown l hl G 79 zs_79 M74) dd_L_law_1373 zs_79 (by decide) (by show w + 2 ≤ 2100; omega) (Nat.le_of_ble_eq_true rfl) rfl rfl (fun r58 M75 => ?_)
          refine ev_iload dd_L_law_1376 5 rfl ?_
          refine ev_icmp_eq 1383 dd_L_law_1378 (by decide) ?_ ?_
          · refine ev_iload dd_L_law_1383 5 rfl ?_
            refine ev_lv (lv' := [(0, .ref G.2.2.2.2.2.1), (1, .ref (G.2.1 + 0)), (2, .ref (G.2.1 + 79)), (3, .ref (G.2.1 + 124)), (4, .int x4), (6, .int r57)]) [0, 1, 2, 3, 4, 6] rfl ?_
            refine ev_jo (fun (k19 : zM → zO) => ∀  (M77 : zM), zEv l G Y_L_law 200 (w + 2) 1407 [(0, .ref G.2.2.2.2.2.1), (1, .ref (G.2.1 + 0)), (2, .ref (G.2.1 + 79)), (3, .ref (G.2.1 + 124)), (4, .int x4)] [] M77 (k19 M77)) ?_ (fun k19 hk19 => ?_)
            · intro M77
              refine ev_goto 2261 dd_L_law_1407 (by decide) ?_
              refine ev_u (u' := w + 4) (by show w + 2 ≤ w + 4; omega) ?_
              exact hk1 _
            · refine ev_if_ne 1407 dd_L_law_1385 (by decide) ?_ ?_
              · refine ev_lv (lv' := [(0, .ref G.2.2.2.2.2.1), (1, .ref (G.2.1 + 0)), (2, .ref (G.2.1 + 79)), (3, .ref (G.2.1 + 124)), (4, .int x4)]) [0, 1, 2, 3, 4] rfl ?_
                exact hk19 _
              · refine ev_aload_n dd_L_law_1388 3 rfl ?_
                refine ev_iconst (v := 0) dd_L_law_1389 (by decide) ?_
                refine ev_lald dd_L_law_1390 zs_124 za_124 ?_
                refine ev_iload dd_L_law_1391 5 rfl ?_
                refine ev_lv (lv' := [(0, .ref G.2.2.2.2.2.1), (1, .ref (G.2.1 + 0)), (2, .ref (G.2.1 + 79)), (3, .ref (G.2.1 + 124)), (4, .int x4)]) [0, 1, 2, 3, 4] rfl ?_
                refine ev_jo (fun (k20 : Int64 → zM → zO) => ∀ (w3 : Int64) (M76 : zM), zEv l G Y_L_law 200 (w + 2) 1401 [(0, .ref G.2.2.2.2.2.1), (1, .ref (G.2.1 + 0)), (2, .ref (G.2.1 + 79)), (3, .ref (G.2.1 + 124)), (4, .int x4)] [.long w3, .long (zgA M75 124 (zix 0))] M76 (k20 w3 M76)) ?_ (fun k20 hk20 => ?_)
                · intro w3 M76
                  refine ev_lcmp dd_L_law_1401 ?_
                  refine ev_if_eq 1407 dd_L_law_1402 (by decide) ?_ ?_
                  · exact hk19 _
                  · refine ev_lv (lv' := [(0, .ref G.2.2.2.2.2.1), (1, .ref (G.2.1 + 0)), (2, .ref (G.2.1 + 79)), (3, .ref (G.2.1 + 124))]) [0, 1, 2, 3] rfl ?_
                    refine ev_iconst (v := 0) dd_L_law_1405 (by decide) ?_
                    exact ev_zret dd_L_law_1406 rfl (by show w + 2 ≤ 2100; omega) rfl
                · refine ev_if_eq 1400 dd_L_law_1393 (by decide) ?_ ?_
                  · refine ev_lconst (v := 0) dd_L_law_1400 (by decide) ?_
                    exact hk20 _ _
                  · refine ev_lconst (v := 1) dd_L_law_1396 (by decide) ?_
                    refine ev_goto 1401 dd_L_law_1397 (by decide) ?_
                    exact hk20 _ _
          · refine ev_lv (lv' := [(0, .ref G.2.2.2.2.2.1), (1, .ref (G.2.1 + 0)), (2, .ref (G.2.1 + 79)), (3, .ref (G.2.1 + 124))]) [0, 1, 2, 3] rfl ?_
            refine ev_iconst (v := 0) dd_L_law_1381 (by decide) ?_
            exact ev_zret dd_L_law_1382 rfl (by show w + 2 ≤ 2100; omega) rfl
        refine ev_it (fun hs22 => ?_) (fun hs22 => ?_)
        · refine ev_tabIn (off := 1370) (tgt := 1410) dd_L_law_40 21 hs22 (by decide +kernel) ?_
          refine ev_aload_n dd_L_law_1410 1 rfl ?_
          refine ev_aload_n dd_L_law_1411 0 rfl ?_
          refine ev_iload dd_L_law_1412 4 rfl ?_
          refine ev_iconst (v := 1) dd_L_law_1414 (by decide) ?_
          refine ev_iadd dd_L_law_1415 ?_
          refine ev_sld dd_L_law_1416 ?_
          refine ev_aload_n dd_L_law_1417 0 rfl ?_
          refine ev_iload dd_L_law_1418 4 rfl ?_
          refine ev_iconst (v := 2) dd_L_law_1420 (by decide) ?_
          refine ev_iadd dd_L_law_1421 ?_
          refine ev_sld dd_L_law_1422 ?_
          refine ev_aload_n dd_L_law_1423 3 rfl ?_
          refine ev_callHI (u' := (w + 2)) (As := [.ref (G.2.1 + 0), .int (G.2.2.2.2.2.2.2 (zix (x4 + 1))), .int (G.2.2.2.2.2.2.2 (zix (x4 + 2))), .ref (G.2.1 + 124)]) cl_RL_184 (ct_L_shortest l hl G 0 zs_0 (G.2.2.2.2.2.2.2 (zix (x4 + 1))) (G.2.2.2.2.2.2.2 (zix (x4 + 2))) 124 zs_124 M) dd_L_law_1424 (by decide) rfl (by show w + 2 ≤ 2100; omega) (Nat.le_of_ble_eq_true rfl) rfl rfl (fun r59 M78 => ?_)
          refine ev_istore (i := 5) (lv' := [(0, .ref G.2.2.2.2.2.1), (1, .ref (G.2.1 + 0)), (2, .ref (G.2.1 + 79)), (3, .ref (G.2.1 + 124)), (4, .int x4), (5, .int r59)]) [1, 2, 3, 4, 5, 0] dd_L_law_1427 (by decide) rfl ?_
          refine ev_aload_n dd_L_law_1429 2 rfl ?_
          refine ev_aload_n dd_L_law_1430 0 rfl ?_
          refine ev_iload dd_L_law_1431 4 rfl ?_
          refine ev_iconst (v := 1) dd_L_law_1433 (by decide) ?_
          refine ev_iadd dd_L_law_1434 ?_
          refine ev_sld dd_L_law_1435 ?_
          refine ev_aload_n dd_L_law_1436 0 rfl ?_
          refine ev_iload dd_L_law_1437 4 rfl ?_
          refine ev_iconst (v := 2) dd_L_law_1439 (by decide) ?_
          refine ev_iadd dd_L_law_1440 ?_
          refine ev_sld dd_L_law_1441 ?_
          refine ev_callVI (As := [.int (G.2.2.2.2.2.2.2 (zix (x4 + 1))), .int (G.2.2.2.2.2.2.2 (zix (x4 + 2)))]) cl_RL_186 (ct_X12_shortest l hl G 79 zs_79 (G.2.2.2.2.2.2.2 (zix (x4 + 1))) (G.2.2.2.2.2.2.2 (zix (x4 + 2))) M78) dd_L_law_1442 zs_79 (by decide) (by show w + 2 ≤ 2100; omega) (Nat.le_of_ble_eq_true rfl) rfl rfl (fun r60 M79 => ?_)
          refine ev_istore (i := 6) (lv' := [(0, .ref G.2.2.2.2.2.1), (1, .ref (G.2.1 + 0)), (2, .ref (G.2.1 + 79)), (3, .ref (G.2.1 + 124)), (4, .int x4), (5, .int r59), (6, .int r60)]) [1, 2, 3, 4, 5, 6, 0] dd_L_law_1445 (by decide) rfl ?_
          refine ev_aload_n dd_L_law_1447 2 rfl ?_
          refine ev_callVI (As := []) cl_RL_117 (ct_X12_thrown l hl G 79 zs_79 M79) dd_L_law_1448 zs_79 (by decide) (by show w + 2 ≤ 2100; omega) (Nat.le_of_ble_eq_true rfl) rfl rfl (fun r61 M80 => ?_)
          refine ev_iload dd_L_law_1451 5 rfl ?_
          refine ev_icmp_eq 1458 dd_L_law_1453 (by decide) ?_ ?_
          · refine ev_iload dd_L_law_1458 5 rfl ?_
            refine ev_lv (lv' := [(0, .ref G.2.2.2.2.2.1), (1, .ref (G.2.1 + 0)), (2, .ref (G.2.1 + 79)), (3, .ref (G.2.1 + 124)), (4, .int x4), (6, .int r60)]) [0, 1, 2, 3, 4, 6] rfl ?_
            refine ev_jo (fun (k21 : zM → zO) => ∀  (M81 : zM), zEv l G Y_L_law 200 (w + 2) 1475 [(0, .ref G.2.2.2.2.2.1), (1, .ref (G.2.1 + 0)), (2, .ref (G.2.1 + 79)), (3, .ref (G.2.1 + 124)), (4, .int x4)] [] M81 (k21 M81)) ?_ (fun k21 hk21 => ?_)
            · intro M81
              refine ev_goto 2261 dd_L_law_1475 (by decide) ?_
              refine ev_u (u' := w + 4) (by show w + 2 ≤ w + 4; omega) ?_
              exact hk1 _
            · refine ev_if_ne 1475 dd_L_law_1460 (by decide) ?_ ?_
              · refine ev_lv (lv' := [(0, .ref G.2.2.2.2.2.1), (1, .ref (G.2.1 + 0)), (2, .ref (G.2.1 + 79)), (3, .ref (G.2.1 + 124)), (4, .int x4)]) [0, 1, 2, 3, 4] rfl ?_
                exact hk21 _
              · refine ev_aload_n dd_L_law_1463 3 rfl ?_
                refine ev_iconst (v := 0) dd_L_law_1464 (by decide) ?_
                refine ev_lald dd_L_law_1465 zs_124 za_124 ?_
                refine ev_iload dd_L_law_1466 5 rfl ?_
                refine ev_lv (lv' := [(0, .ref G.2.2.2.2.2.1), (1, .ref (G.2.1 + 0)), (2, .ref (G.2.1 + 79)), (3, .ref (G.2.1 + 124)), (4, .int x4)]) [0, 1, 2, 3, 4] rfl ?_
                refine ev_i2l dd_L_law_1468 ?_
                refine ev_lcmp dd_L_law_1469 ?_
                refine ev_if_eq 1475 dd_L_law_1470 (by decide) ?_ ?_
                · exact hk21 _
                · refine ev_lv (lv' := [(0, .ref G.2.2.2.2.2.1), (1, .ref (G.2.1 + 0)), (2, .ref (G.2.1 + 79)), (3, .ref (G.2.1 + 124))]) [0, 1, 2, 3] rfl ?_
                  refine ev_iconst (v := 0) dd_L_law_1473 (by decide) ?_
                  exact ev_zret dd_L_law_1474 rfl (by show w + 2 ≤ 2100; omega) rfl
          · refine ev_lv (lv' := [(0, .ref G.2.2.2.2.2.1), (1, .ref (G.2.1 + 0)), (2, .ref (G.2.1 + 79)), (3, .ref (G.2.1 + 124))]) [0, 1, 2, 3] rfl ?_
            refine ev_iconst (v := 0) dd_L_law_1456 (by decide) ?_
            exact ev_zret dd_L_law_1457 rfl (by show w + 2 ≤ 2100; omega) rfl
        refine ev_it (fun hs23 => ?_) (fun hs23 => ?_)
        · refine ev_tabIn (off := 1438) (tgt := 1478) dd_L_law_40 22 hs23 (by decide +kernel) ?_
          refine ev_aload_n dd_L_law_1478 1 rfl ?_
          refine ev_aload_n dd_L_law_1479 0 rfl ?_
          refine ev_iload dd_L_law_1480 4 rfl ?_
          refine ev_iconst (v := 1) dd_L_law_1482 (by decide) ?_
          refine ev_iadd dd_L_law_1483 ?_
          refine ev_sld dd_L_law_1484 ?_
          refine ev_aload_n dd_L_law_1485 0 rfl ?_
          refine ev_iload dd_L_law_1486 4 rfl ?_
          refine ev_iconst (v := 2) dd_L_law_1488 (by decide) ?_
          refine ev_iadd dd_L_law_1489 ?_
          refine ev_sld dd_L_law_1490 ?_
          refine ev_aload_n dd_L_law_1491 0 rfl ?_
          refine ev_iload dd_L_law_1492 4 rfl ?_
          refine ev_iconst (v := 3) dd_L_law_1494 (by decide) ?_
          refine ev_iadd dd_L_law_1495 ?_
          refine ev_sld dd_L_law_1496 ?_
          refine ev_aload_n dd_L_law_1497 3 rfl ?_
          refine ev_callHI (u' := (w + 3)) (As := [.ref (G.2.1 + 0), .int (G.2.2.2.2.2.2.2 (zix (x4 + 1))), .int (G.2.2.2.2.2.2.2 (zix (x4 + 2))), .int (G.2.2.2.2.2.2.2 (zix (x4 + 3))), .ref (G.2.1 + 124)]) cl_RL_187 (ct_L_worn l hl G 0 zs_0 (G.2.2.2.2.2.2.2 (zix (x4 + 1))) (G.2.2.2.2.2.2.2 (zix (x4 + 2))) (G.2.2.2.2.2.2.2 (zix (x4 + 3))) 124 zs_124 M) dd_L_law_1498 (by decide) rfl (by show w + 3 ≤ 2100; omega) (Nat.le_of_ble_eq_true rfl) rfl rfl (fun r62 M82 => ?_)
          refine ev_istore (i := 5) (lv' := [(0, .ref G.2.2.2.2.2.1), (1, .ref (G.2.1 + 0)), (2, .ref (G.2.1 + 79)), (3, .ref (G.2.1 + 124)), (4, .int x4), (5, .int r62)]) [1, 2, 3, 4, 5, 0] dd_L_law_1501 (by decide) rfl ?_
          refine ev_aload_n dd_L_law_1503 2 rfl ?_
          refine ev_aload_n dd_L_law_1504 0 rfl ?_
          refine ev_iload dd_L_law_1505 4 rfl ?_
          refine ev_iconst (v := 1) dd_L_law_1507 (by decide) ?_
          refine ev_iadd dd_L_law_1508 ?_
          refine ev_sld dd_L_law_1509 ?_
          refine ev_aload_n dd_L_law_1510 0 rfl ?_
          refine ev_iload dd_L_law_1511 4 rfl ?_
          refine ev_iconst (v := 2) dd_L_law_1513 (by decide) ?_
          refine ev_iadd dd_L_law_1514 ?_
          refine ev_sld dd_L_law_1515 ?_
          refine ev_aload_n dd_L_law_1516 0 rfl ?_
          refine ev_iload dd_L_law_1517 4 rfl ?_
          refine ev_iconst (v := 3) dd_L_law_1519 (by decide) ?_
          refine ev_iadd dd_L_law_1520 ?_
          refine ev_sld dd_L_law_1521 ?_
          refine ev_callVI (As := [.int (G.2.2.2.2.2.2.2 (zix (x4 + 1))), .int (G.2.2.2.2.2.2.2 (zix (x4 + 2))), .int (G.2.2.2.2.2.2.2 (zix (x4 + 3)))]) cl_RL_189 (ct_X12_worn l hl G 79 zs_79 (G.2.2.2.2.2.2.2 (zix (x4 + 1))) (G.2.2.2.2.2.2.2 (zix (x4 + 2))) (G.2.2.2.2.2.2.2 (zix (x4 + 3))) M82) dd_L_law_1522 zs_79 (by decide) (by show w + 3 ≤ 2100; omega) (Nat.le_of_ble_eq_true rfl) rfl rfl (fun r63 M83 => ?_)
          refine ev_istore (i := 6) (lv' := [(0, .ref G.2.2.2.2.2.1), (1, .ref (G.2.1 + 0)), (2, .ref (G.2.1 + 79)), (3, .ref (G.2.1 + 124)), (4, .int x4), (5, .int r62), (6, .int r63)]) [1, 2, 3, 4, 5, 6, 0] dd_L_law_1525 (by decide) rfl ?_
          refine ev_aload_n dd_L_law_1527 2 rfl ?_
          refine ev_callVI (As := []) cl_RL_117 (ct_X12_thrown l hl G 79 zs_79 M83) dd_L_law_1528 zs_79 (by decide) (by show w + 3 ≤ 2100; omega) (Nat.le_of_ble_eq_true rfl) rfl rfl (fun r64 M84 => ?_)
          refine ev_iload dd_L_law_1531 5 rfl ?_
          refine ev_icmp_eq 1538 dd_L_law_1533 (by decide) ?_ ?_
          · refine ev_iload dd_L_law_1538 5 rfl ?_
            refine ev_lv (lv' := [(0, .ref G.2.2.2.2.2.1), (1, .ref (G.2.1 + 0)), (2, .ref (G.2.1 + 79)), (3, .ref (G.2.1 + 124)), (4, .int x4), (6, .int r63)]) [0, 1, 2, 3, 4, 6] rfl ?_
            refine ev_jo (fun (k22 : zM → zO) => ∀  (M85 : zM), zEv l G Y_L_law 200 (w + 3) 1555 [(0, .ref G.2.2.2.2.2.1), (1, .ref (G.2.1 + 0)), (2, .ref (G.2.1 + 79)), (3, .ref (G.2.1 + 124)), (4, .int x4)] [] M85 (k22 M85)) ?_ (fun k22 hk22 => ?_)
            · intro M85
              refine ev_goto 2261 dd_L_law_1555 (by decide) ?_
              refine ev_u (u' := w + 4) (by show w + 3 ≤ w + 4; omega) ?_
              exact hk1 _
            · refine ev_if_ne 1555 dd_L_law_1540 (by decide) ?_ ?_
              · refine ev_lv (lv' := [(0, .ref G.2.2.2.2.2.1), (1, .ref (G.2.1 + 0)), (2, .ref (G.2.1 + 79)), (3, .ref (G.2.1 + 124)), (4, .int x4)]) [0, 1, 2, 3, 4] rfl ?_
                exact hk22 _
              · refine ev_aload_n dd_L_law_1543 3 rfl ?_
                refine ev_iconst (v := 0) dd_L_law_1544 (by decide) ?_
                refine ev_lald dd_L_law_1545 zs_124 za_124 ?_
                refine ev_iload dd_L_law_1546 5 rfl ?_
                refine ev_lv (lv' := [(0, .ref G.2.2.2.2.2.1), (1, .ref (G.2.1 + 0)), (2, .ref (G.2.1 + 79)), (3, .ref (G.2.1 + 124)), (4, .int x4)]) [0, 1, 2, 3, 4] rfl ?_
                refine ev_i2l dd_L_law_1548 ?_
                refine ev_lcmp dd_L_law_1549 ?_
                refine ev_if_eq 1555 dd_L_law_1550 (by decide) ?_ ?_
                · exact hk22 _
                · refine ev_lv (lv' := [(0, .ref G.2.2.2.2.2.1), (1, .ref (G.2.1 + 0)), (2, .ref (G.2.1 + 79)), (3, .ref (G.2.1 + 124))]) [0, 1, 2, 3] rfl ?_
                  refine ev_iconst (v := 0) dd_L_law_1553 (by decide) ?_
                  exact ev_zret dd_L_law_1554 rfl (by show w + 3 ≤ 2100; omega) rfl
          · refine ev_lv (lv' := [(0, .ref G.2.2.2.2.2.1), (1, .ref (G.2.1 + 0)), (2, .ref (G.2.1 + 79)), (3, .ref (G.2.1 + 124))]) [0, 1, 2, 3] rfl ?_
            refine ev_iconst (v := 0) dd_L_law_1536 (by decide) ?_
            exact ev_zret dd_L_law_1537 rfl (by show w + 3 ≤ 2100; omega) rfl
        refine ev_it (fun hs24 => ?_) (fun hs24 => ?_)
        · refine ev_tabIn (off := 1518) (tgt := 1558) dd_L_law_40 23 hs24 (by decide +kernel) ?_
          refine ev_aload_n dd_L_law_1558 1 rfl ?_
          refine ev_aload_n dd_L_law_1559 0 rfl ?_
          refine ev_iload dd_L_law_1560 4 rfl ?_
          refine ev_iconst (v := 1) dd_L_law_1562 (by decide) ?_
          refine ev_iadd dd_L_law_1563 ?_
          refine ev_sld dd_L_law_1564 ?_
          refine ev_aload_n dd_L_law_1565 3 rfl ?_
          refine ev_callHI (u' := (w + 1)) (As := [.ref (G.2.1 + 0), .int (G.2.2.2.2.2.2.2 (zix (x4 + 1))), .ref (G.2.1 + 124)]) cl_RL_190 (ct_L_tide l hl G 0 zs_0 (G.2.2.2.2.2.2.2 (zix (x4 + 1))) 124 zs_124 M) dd_L_law_1566 (by decide) rfl (by show w + 1 ≤ 2100; omega) (Nat.le_of_ble_eq_true rfl) rfl rfl (fun r65 M86 => ?_)
          refine ev_istore (i := 5) (lv' := [(0, .ref G.2.2.2.2.2.1), (1, .ref (G.2.1 + 0)), (2, .ref (G.2.1 + 79)), (3, .ref (G.2.1 + 124)), (4, .int x4), (5, .int r65)]) [1, 2, 3, 4, 5, 0] dd_L_law_1569 (by decide) rfl ?_
          refine ev_aload_n dd_L_law_1571 2 rfl ?_
          refine ev_aload_n dd_L_law_1572 0 rfl ?_
          refine ev_iload dd_L_law_1573 4 rfl ?_
          refine ev_iconst (v := 1) dd_L_law_1575 (by decide) ?_
          refine ev_iadd dd_L_law_1576 ?_
          refine ev_sld dd_L_law_1577 ?_
          refine ev_callVI (As := [.int (G.2.2.2.2.2.2.2 (zix (x4 + 1)))]) cl_RL_192 (ct_X12_tide l hl G 79 zs_79 (G.2.2.2.2.2.2.2 (zix (x4 + 1))) M86) dd_L_law_1578 zs_79 (by decide) (by show w + 1 ≤ 2100; omega) (Nat.le_of_ble_eq_true rfl) rfl rfl (fun r66 M87 => ?_)
          refine ev_istore (i := 6) (lv' := [(0, .ref G.2.2.2.2.2.1), (1, .ref (G.2.1 + 0)), (2, .ref (G.2.1 + 79)), (3, .ref (G.2.1 + 124)), (4, .int x4), (5, .int r65), (6, .int r66)]) [1, 2, 3, 4, 5, 6, 0] dd_L_law_1581 (by decide) rfl ?_
          refine ev_aload_n dd_L_law_1583 2 rfl ?_
          refine ev_callVI (As := []) cl_RL_117 (ct_X12_thrown l hl G 79 zs_79 M87) dd_L_law_1584 zs_79 (by decide) (by show w + 1 ≤ 2100; omega) (Nat.le_of_ble_eq_true rfl) rfl rfl (fun r67 M88 => ?_)
          refine ev_iload dd_L_law_1587 5 rfl ?_
          refine ev_icmp_eq 1594 dd_L_law_1589 (by decide) ?_ ?_
          · refine ev_iload dd_L_law_1594 5 rfl ?_
            refine ev_lv (lv' := [(0, .ref G.2.2.2.2.2.1), (1, .ref (G.2.1 + 0)), (2, .ref (G.2.1 + 79)), (3, .ref (G.2.1 + 124)), (4, .int x4), (6, .int r66)]) [0, 1, 2, 3, 4, 6] rfl ?_
            refine ev_jo (fun (k23 : zM → zO) => ∀  (M89 : zM), zEv l G Y_L_law 200 (w + 1) 1611 [(0, .ref G.2.2.2.2.2.1), (1, .ref (G.2.1 + 0)), (2, .ref (G.2.1 + 79)), (3, .ref (G.2.1 + 124)), (4, .int x4)] [] M89 (k23 M89)) ?_ (fun k23 hk23 => ?_)
            · intro M89
              refine ev_goto 2261 dd_L_law_1611 (by decide) ?_
              refine ev_u (u' := w + 4) (by show w + 1 ≤ w + 4; omega) ?_
              exact hk1 _
            · refine ev_if_ne 1611 dd_L_law_1596 (by decide) ?_ ?_
              · refine ev_lv (lv' := [(0, .ref G.2.2.2.2.2.1), (1, .ref (G.2.1 + 0)), (2, .ref (G.2.1 + 79)), (3, .ref (G.2.1 + 124)), (4, .int x4)]) [0, 1, 2, 3, 4] rfl ?_
                exact hk23 _
              · refine ev_aload_n dd_L_law_1599 3 rfl ?_
                refine ev_iconst (v := 0) dd_L_law_1600 (by decide) ?_
                refine ev_lald dd_L_law_1601 zs_124 za_124 ?_
                refine ev_iload dd_L_law_1602 5 rfl ?_
                refine ev_lv (lv' := [(0, .ref G.2.2.2.2.2.1), (1, .ref (G.2.1 + 0)), (2, .ref (G.2.1 + 79)), (3, .ref (G.2.1 + 124)), (4, .int x4)]) [0, 1, 2, 3, 4] rfl ?_
                refine ev_i2l dd_L_law_1604 ?_
                refine ev_lcmp dd_L_law_1605 ?_
                refine ev_if_eq 1611 dd_L_law_1606 (by decide) ?_ ?_
                · exact hk23 _
                · refine ev_lv (lv' := [(0, .ref G.2.2.2.2.2.1), (1, .ref (G.2.1 + 0)), (2, .ref (G.2.1 + 79)), (3, .ref (G.2.1 + 124))]) [0, 1, 2, 3] rfl ?_
                  refine ev_iconst (v := 0) dd_L_law_1609 (by decide) ?_
                  exact ev_zret dd_L_law_1610 rfl (by show w + 1 ≤ 2100; omega) rfl
          · refine ev_lv (lv' := [(0, .ref G.2.2.2.2.2.1), (1, .ref (G.2.1 + 0)), (2, .ref (G.2.1 + 79)), (3, .ref (G.2.1 + 124))]) [0, 1, 2, 3] rfl ?_
            refine ev_iconst (v := 0) dd_L_law_1592 (by decide) ?_
            exact ev_zret dd_L_law_1593 rfl (by show w + 1 ≤ 2100; omega) rfl
        refine ev_it (fun hs25 => ?_) (fun hs25 => ?_)
        · refine ev_tabIn (off := 1574) (tgt := 1614) dd_L_law_40 24 hs25 (by decide +kernel) ?_
          refine ev_aload_n dd_L_law_1614 1 rfl ?_
          refine ev_aload_n dd_L_law_1615 0 rfl ?_
          refine ev_iload dd_L_law_1616 4 rfl ?_
          refine ev_iconst (v := 1) dd_L_law_1618 (by decide) ?_
          refine ev_iadd dd_L_law_1619 ?_
          refine ev_sld dd_L_law_1620 ?_
          refine ev_aload_n dd_L_law_1621 0 rfl ?_
          refine ev_iload dd_L_law_1622 4 rfl ?_
          refine ev_iconst (v := 2) dd_L_law_1624 (by decide) ?_
          refine ev_iadd dd_L_law_1625 ?_
          refine ev_sld dd_L_law_1626 ?_
          refine ev_aload_n dd_L_law_1627 3 rfl ?_
          refine ev_callHI (u' := (w + 3)) (As := [.ref (G.2.1 + 0), .int (G.2.2.2.2.2.2.2 (zix (x4 + 1))), .int (G.2.2.2.2.2.2.2 (zix (x4 + 2))), .ref (G.2.1 + 124)]) cl_RL_193 (ct_L_lies l hl G 0 zs_0 (G.2.2.2.2.2.2.2 (zix (x4 + 1))) (G.2.2.2.2.2.2.2 (zix (x4 + 2))) 124 zs_124 M) dd_L_law_1628 (by decide) rfl (by show w + 3 ≤ 2100; omega) (Nat.le_of_ble_eq_true rfl) rfl rfl (fun r68 M90 => ?_)
          refine ev_istore (i := 5) (lv' := [(0, .ref G.2.2.2.2.2.1), (1, .ref (G.2.1 + 0)), (2, .ref (G.2.1 + 79)), (3, .ref (G.2.1 + 124)), (4, .int x4), (5, .int r68)]) [1, 2, 3, 4, 5, 0] dd_L_law_1631 (by decide) rfl ?_
          refine ev_aload_n dd_L_law_1633 2 rfl ?_
          refine ev_aload_n dd_L_law_1634 0 rfl ?_
          refine ev_iload dd_L_law_1635 4 rfl ?_
          refine ev_iconst (v := 1) dd_L_law_1637 (by decide) ?_
          refine ev_iadd dd_L_law_1638 ?_
          refine ev_sld dd_L_law_1639 ?_
          refine ev_aload_n dd_L_law_1640 0 rfl ?_
          refine ev_iload dd_L_law_1641 4 rfl ?_
          refine ev_iconst (v := 2) dd_L_law_1643 (by decide) ?_
          refine ev_iadd dd_L_law_1644 ?_
          refine ev_sld dd_L_law_1645 ?_
          refine ev_callVI (As := [.int (G.2.2.2.2.2.2.2 (zix (x4 + 1))), .int (G.2.2.2.2.2.2.2 (zix (x4 + 2)))]) cl_RL_195 (ct_X12_lies l hl G 79 zs_79 (G.2.2.2.2.2.2.2 (zix (x4 + 1))) (G.2.2.2.2.2.2.2 (zix (x4 + 2))) M90) dd_L_law_1646 zs_79 (by decide) (by show w + 3 ≤ 2100; omega) (Nat.le_of_ble_eq_true rfl) rfl rfl (fun r69 M91 => ?_)
          refine ev_istore (i := 6) (lv' := [(0, .ref G.2.2.2.2.2.1), (1, .ref (G.2.1 + 0)), (2, .ref (G.2.1 + 79)), (3, .ref (G.2.1 + 124)), (4, .int x4), (5, .int r68), (6, .int r69)]) [1, 2, 3, 4, 5, 6, 0] dd_L_law_1649 (by decide) rfl ?_
          refine ev_aload_n dd_L_law_1651 2 rfl ?_
          refine ev_callVI (As := []) cl_RL_117 (ct_X12_thrown l hl G 79 zs_79 M91) dd_L_law_1652 zs_79 (by decide) (by show w + 3 ≤ 2100; omega) (Nat.le_of_ble_eq_true rfl) rfl rfl (fun r70 M92 => ?_)
          refine ev_iload dd_L_law_1655 5 rfl ?_
          refine ev_icmp_eq 1662 dd_L_law_1657 (by decide) ?_ ?_
          · refine ev_iload dd_L_law_1662 5 rfl ?_
            refine ev_lv (lv' := [(0, .ref G.2.2.2.2.2.1), (1, .ref (G.2.1 + 0)), (2, .ref (G.2.1 + 79)), (3, .ref (G.2.1 + 124)), (4, .int x4), (6, .int r69)]) [0, 1, 2, 3, 4, 6] rfl ?_
            refine ev_jo (fun (k24 : zM → zO) => ∀  (M93 : zM), zEv l G Y_L_law 200 (w + 3) 1679 [(0, .ref G.2.2.2.2.2.1), (1, .ref (G.2.1 + 0)), (2, .ref (G.2.1 + 79)), (3, .ref (G.2.1 + 124)), (4, .int x4)] [] M93 (k24 M93)) ?_ (fun k24 hk24 => ?_)
            · intro M93
              refine ev_goto 2261 dd_L_law_1679 (by decide) ?_
              refine ev_u (u' := w + 4) (by show w + 3 ≤ w + 4; omega) ?_
              exact hk1 _
            · refine ev_if_ne 1679 dd_L_law_1664 (by decide) ?_ ?_
              · refine ev_lv (lv' := [(0, .ref G.2.2.2.2.2.1), (1, .ref (G.2.1 + 0)), (2, .ref (G.2.1 + 79)), (3, .ref (G.2.1 + 124)), (4, .int x4)]) [0, 1, 2, 3, 4] rfl ?_
                exact hk24 _
              · refine ev_aload_n dd_L_law_1667 3 rfl ?_
                refine ev_iconst (v := 0) dd_L_law_1668 (by decide) ?_
                refine ev_lald dd_L_law_1669 zs_124 za_124 ?_
                refine ev_iload dd_L_law_1670 5 rfl ?_
                refine ev_lv (lv' := [(0, .ref G.2.2.2.2.2.1), (1, .ref (G.2.1 + 0)), (2, .ref (G.2.1 + 79)), (3, .ref (G.2.1 + 124)), (4, .int x4)]) [0, 1, 2, 3, 4] rfl ?_
                refine ev_i2l dd_L_law_1672 ?_
                refine ev_lcmp dd_L_law_1673 ?_
                refine ev_if_eq 1679 dd_L_law_1674 (by decide) ?_ ?_
                · exact hk24 _
                · refine ev_lv (lv' := [(0, .ref G.2.2.2.2.2.1), (1, .ref (G.2.1 + 0)), (2, .ref (G.2.1 + 79)), (3, .ref (G.2.1 + 124))]) [0, 1, 2, 3] rfl ?_
                  refine ev_iconst (v := 0) dd_L_law_1677 (by decide) ?_
                  exact ev_zret dd_L_law_1678 rfl (by show w + 3 ≤ 2100; omega) rfl
          · refine ev_lv (lv' := [(0, .ref G.2.2.2.2.2.1), (1, .ref (G.2.1 + 0)), (2, .ref (G.2.1 + 79)), (3, .ref (G.2.1 + 124))]) [0, 1, 2, 3] rfl ?_
            refine ev_iconst (v := 0) dd_L_law_1660 (by decide) ?_
            exact ev_zret dd_L_law_1661 rfl (by show w + 3 ≤ 2100; omega) rfl
        refine ev_it (fun hs26 => ?_) (fun hs26 => ?_)
        · refine ev_tabIn (off := 1642) (tgt := 1682) dd_L_law_40 25 hs26 (by decide +kernel) ?_
          refine ev_aload_n dd_L_law_1682 1 rfl ?_
          refine ev_aload_n dd_L_law_1683 0 rfl ?_
          refine ev_iload dd_L_law_1684 4 rfl ?_
          refine ev_iconst (v := 1) dd_L_law_1686 (by decide) ?_
          refine ev_iadd dd_L_law_1687 ?_
          refine ev_sld dd_L_law_1688 ?_
          refine ev_aload_n dd_L_law_1689 0 rfl ?_
          refine ev_iload dd_L_law_1690 4 rfl ?_
          refine ev_iconst (v := 2) dd_L_law_1692 (by decide) ?_
          refine ev_iadd dd_L_law_1693 ?_
          refine ev_sld dd_L_law_1694 ?_
          refine ev_aload_n dd_L_law_1695 3 rfl ?_
          refine ev_callHI (u' := (w + 2)) (As := [.ref (G.2.1 + 0), .int (G.2.2.2.2.2.2.2 (zix (x4 + 1))), .int (G.2.2.2.2.2.2.2 (zix (x4 + 2))), .ref (G.2.1 + 124)]) cl_RL_196 (ct_L_see l hl G 0 zs_0 (G.2.2.2.2.2.2.2 (zix (x4 + 1))) (G.2.2.2.2.2.2.2 (zix (x4 + 2))) 124 zs_124 M) dd_L_law_1696 (by decide) rfl (by show w + 2 ≤ 2100; omega) (Nat.le_of_ble_eq_true rfl) rfl rfl (fun r71 M94 => ?_)
          refine ev_istore (i := 5) (lv' := [(0, .ref G.2.2.2.2.2.1), (1, .ref (G.2.1 + 0)), (2, .ref (G.2.1 + 79)), (3, .ref (G.2.1 + 124)), (4, .int x4), (5, .int r71)]) [1, 2, 3, 4, 5, 0] dd_L_law_1699 (by decide) rfl ?_
          refine ev_aload_n dd_L_law_1701 2 rfl ?_
          refine ev_aload_n dd_L_law_1702 0 rfl ?_
          refine ev_iload dd_L_law_1703 4 rfl ?_
          refine ev_iconst (v := 1) dd_L_law_1705 (by decide) ?_
          refine ev_iadd dd_L_law_1706 ?_
          refine ev_sld dd_L_law_1707 ?_
          refine ev_aload_n dd_L_law_1708 0 rfl ?_
          refine ev_iload dd_L_law_1709 4 rfl ?_
          refine ev_iconst (v := 2) dd_L_law_1711 (by decide) ?_
          refine ev_iadd dd_L_law_1712 ?_
          refine ev_sld dd_L_law_1713 ?_
          refine ev_callVI (As := [.int (G.2.2.2.2.2.2.2 (zix (x4 + 1))), .int (G.2.2.2.2.2.2.2 (zix (x4 + 2)))]) cl_RL_198 (ct_X12_see l hl G 79 zs_79 (G.2.2.2.2.2.2.2 (zix (x4 + 1))) (G.2.2.2.2.2.2.2 (zix (x4 + 2))) M94) dd_L_law_1714 zs_79 (by decide) (by show w + 2 ≤ 2100; omega) (Nat.le_of_ble_eq_true rfl) rfl rfl (fun r72 M95 => ?_)
          refine ev_istore (i := 6) (lv' := [(0, .ref G.2.2.2.2.2.1), (1, .ref (G.2.1 + 0)), (2, .ref (G.2.1 + 79)), (3, .ref (G.2.1 + 124)), (4, .int x4), (5, .int r71), (6, .int r72)]) [1, 2, 3, 4, 5, 6, 0] dd_L_law_1717 (by decide) rfl ?_
          refine ev_aload_n dd_L_law_1719 2 rfl ?_
          refine ev_callVI (As := []) cl_RL_117 (ct_X12_thrown l hl G 79 zs_79 M95) dd_L_law_1720 zs_79 (by decide) (by show w + 2 ≤ 2100; omega) (Nat.le_of_ble_eq_true rfl) rfl rfl (fun r73 M96 => ?_)
          refine ev_iload dd_L_law_1723 5 rfl ?_
          refine ev_icmp_eq 1730 dd_L_law_1725 (by decide) ?_ ?_
          · refine ev_iload dd_L_law_1730 5 rfl ?_
            refine ev_lv (lv' := [(0, .ref G.2.2.2.2.2.1), (1, .ref (G.2.1 + 0)), (2, .ref (G.2.1 + 79)), (3, .ref (G.2.1 + 124)), (4, .int x4), (6, .int r72)]) [0, 1, 2, 3, 4, 6] rfl ?_
            refine ev_jo (fun (k25 : zM → zO) => ∀  (M97 : zM), zEv l G Y_L_law 200 (w + 2) 1747 [(0, .ref G.2.2.2.2.2.1), (1, .ref (G.2.1 + 0)), (2, .ref (G.2.1 + 79)), (3, .ref (G.2.1 + 124)), (4, .int x4)] [] M97 (k25 M97)) ?_ (fun k25 hk25 => ?_)
            · intro M97
              refine ev_goto 2261 dd_L_law_1747 (by decide) ?_
              refine ev_u (u' := w + 4) (by show w + 2 ≤ w + 4; omega) ?_
              exact hk1 _
            · refine ev_if_ne 1747 dd_L_law_1732 (by decide) ?_ ?_
              · refine ev_lv (lv' := [(0, .ref G.2.2.2.2.2.1), (1, .ref (G.2.1 + 0)), (2, .ref (G.2.1 + 79)), (3, .ref (G.2.1 + 124)), (4, .int x4)]) [0, 1, 2, 3, 4] rfl ?_
                exact hk25 _
              · refine ev_aload_n dd_L_law_1735 3 rfl ?_
                refine ev_iconst (v := 0) dd_L_law_1736 (by decide) ?_
                refine ev_lald dd_L_law_1737 zs_124 za_124 ?_
                refine ev_iload dd_L_law_1738 5 rfl ?_
                refine ev_lv (lv' := [(0, .ref G.2.2.2.2.2.1), (1, .ref (G.2.1 + 0)), (2, .ref (G.2.1 + 79)), (3, .ref (G.2.1 + 124)), (4, .int x4)]) [0, 1, 2, 3, 4] rfl ?_
                refine ev_i2l dd_L_law_1740 ?_
                refine ev_lcmp dd_L_law_1741 ?_
                refine ev_if_eq 1747 dd_L_law_1742 (by decide) ?_ ?_
                · exact hk25 _
                · refine ev_lv (lv' := [(0, .ref G.2.2.2.2.2.1), (1, .ref (G.2.1 + 0)), (2, .ref (G.2.1 + 79)), (3, .ref (G.2.1 + 124))]) [0, 1, 2, 3] rfl ?_
                  refine ev_iconst (v := 0) dd_L_law_1745 (by decide) ?_
                  exact ev_zret dd_L_law_1746 rfl (by show w + 2 ≤ 2100; omega) rfl
          · refine ev_lv (lv' := [(0, .ref G.2.2.2.2.2.1), (1, .ref (G.2.1 + 0)), (2, .ref (G.2.1 + 79)), (3, .ref (G.2.1 + 124))]) [0, 1, 2, 3] rfl ?_
            refine ev_iconst (v := 0) dd_L_law_1728 (by decide) ?_
            exact ev_zret dd_L_law_1729 rfl (by show w + 2 ≤ 2100; omega) rfl
        refine ev_it (fun hs27 => ?_) (fun hs27 => ?_)
        · refine ev_tabIn (off := 1710) (tgt := 1750) dd_L_law_40 26 hs27 (by decide +kernel) ?_
          refine ev_aload_n dd_L_law_1750 1 rfl ?_
          refine ev_callVV (As := []) cl_RL_199 (ct_X11_forget l hl G 0 zs_0 M) dd_L_law_1751 zs_0 (by decide) (by show w + 0 ≤ 2100; omega) (Nat.le_of_ble_eq_true rfl) rfl rfl (fun M98 => ?_)
          refine ev_aload_n dd_L_law_1754 2 rfl ?_
          refine ev_callVV (As := []) cl_RL_202 (ct_X12_forget l hl G 79 zs_79 M98) dd_L_law_1755 zs_79 (by decide) (by show w + 0 ≤ 2100; omega) (Nat.le_of_ble_eq_true rfl) rfl rfl (fun M99 => ?_)
          refine ev_goto 2261 dd_L_law_1758 (by decide) ?_
          refine ev_u (u' := w + 4) (by show w + 0 ≤ w + 4; omega) ?_
          exact hk1 _
        refine ev_it (fun hs28 => ?_) (fun hs28 => ?_)
        · refine ev_tabIn (off := 1721) (tgt := 1761) dd_L_law_40 27 hs28 (by decide +kernel) ?_
          refine ev_aload_n dd_L_law_1761 1 rfl ?_
          refine ev_aload_n dd_L_law_1762 0 rfl ?_
          refine ev_iload dd_L_law_1763 4 rfl ?_
          refine ev_iconst (v := 1) dd_L_law_1765 (by decide) ?_
          refine ev_iadd dd_L_law_1766 ?_
          refine ev_sld dd_L_law_1767 ?_
          refine ev_aload_n dd_L_law_1768 0 rfl ?_
          refine ev_iload dd_L_law_1769 4 rfl ?_
          refine ev_iconst (v := 2) dd_L_law_1771 (by decide) ?_
          refine ev_iadd dd_L_law_1772 ?_
          refine ev_sld dd_L_law_1773 ?_
          refine ev_aload_n dd_L_law_1774 3 rfl ?_
          refine ev_callHI (u' := (w + 2)) (As := [.ref (G.2.1 + 0), .int (G.2.2.2.2.2.2.2 (zix (x4 + 1))), .int (G.2.2.2.2.2.2.2 (zix (x4 + 2))), .ref (G.2.1 + 124)]) cl_RL_203 (ct_L_sales l hl G 0 zs_0 (G.2.2.2.2.2.2.2 (zix (x4 + 1))) (G.2.2.2.2.2.2.2 (zix (x4 + 2))) 124 zs_124 M) dd_L_law_1775 (by decide) rfl (by show w + 2 ≤ 2100; omega) (Nat.le_of_ble_eq_true rfl) rfl rfl (fun r74 M100 => ?_)
          refine ev_istore (i := 5) (lv' := [(0, .ref G.2.2.2.2.2.1), (1, .ref (G.2.1 + 0)), (2, .ref (G.2.1 + 79)), (3, .ref (G.2.1 + 124)), (4, .int x4), (5, .int r74)]) [1, 2, 3, 4, 5, 0] dd_L_law_1778 (by decide) rfl ?_
          refine ev_aload_n dd_L_law_1780 2 rfl ?_
          refine ev_aload_n dd_L_law_1781 0 rfl ?_
          refine ev_iload dd_L_law_1782 4 rfl ?_
          refine ev_iconst (v := 1) dd_L_law_1784 (by decide) ?_
          refine ev_iadd dd_L_law_1785 ?_
          refine ev_sld dd_L_law_1786 ?_
          refine ev_aload_n dd_L_law_1787 0 rfl ?_
          refine ev_iload dd_L_law_1788 4 rfl ?_
          refine ev_iconst (v := 2) dd_L_law_1790 (by decide) ?_
          refine ev_iadd dd_L_law_1791 ?_
          refine ev_sld dd_L_law_1792 ?_
          refine ev_callVI (As := [.int (G.2.2.2.2.2.2.2 (zix (x4 + 1))), .int (G.2.2.2.2.2.2.2 (zix (x4 + 2)))]) cl_RL_205 (ct_X12_sales l hl G 79 zs_79 (G.2.2.2.2.2.2.2 (zix (x4 + 1))) (G.2.2.2.2.2.2.2 (zix (x4 + 2))) M100) dd_L_law_1793 zs_79 (by decide) (by show w + 2 ≤ 2100; omega) (Nat.le_of_ble_eq_true rfl) rfl rfl (fun r75 M101 => ?_)
          refine ev_istore (i := 6) (lv' := [(0, .ref G.2.2.2.2.2.1), (1, .ref (G.2.1 + 0)), (2, .ref (G.2.1 + 79)), (3, .ref (G.2.1 + 124)), (4, .int x4), (5, .int r74), (6, .int r75)]) [1, 2, 3, 4, 5, 6, 0] dd_L_law_1796 (by decide) rfl ?_
          refine ev_aload_n dd_L_law_1798 2 rfl ?_
          refine ev_callVI (As := []) cl_RL_117 (ct_X12_thrown l hl G 79 zs_79 M101) dd_L_law_1799 zs_79 (by decide) (by show w + 2 ≤ 2100; omega) (Nat.le_of_ble_eq_true rfl) rfl rfl (fun r76 M102 => ?_)
          refine ev_iload dd_L_law_1802 5 rfl ?_
          refine ev_icmp_eq 1809 dd_L_law_1804 (by decide) ?_ ?_
          · refine ev_iload dd_L_law_1809 5 rfl ?_
            refine ev_lv (lv' := [(0, .ref G.2.2.2.2.2.1), (1, .ref (G.2.1 + 0)), (2, .ref (G.2.1 + 79)), (3, .ref (G.2.1 + 124)), (4, .int x4), (6, .int r75)]) [0, 1, 2, 3, 4, 6] rfl ?_
            refine ev_jo (fun (k26 : zM → zO) => ∀  (M103 : zM), zEv l G Y_L_law 200 (w + 2) 1826 [(0, .ref G.2.2.2.2.2.1), (1, .ref (G.2.1 + 0)), (2, .ref (G.2.1 + 79)), (3, .ref (G.2.1 + 124)), (4, .int x4)] [] M103 (k26 M103)) ?_ (fun k26 hk26 => ?_)
            · intro M103
              refine ev_goto 2261 dd_L_law_1826 (by decide) ?_
              refine ev_u (u' := w + 4) (by show w + 2 ≤ w + 4; omega) ?_
              exact hk1 _
            · refine ev_if_ne 1826 dd_L_law_1811 (by decide) ?_ ?_
              · refine ev_lv (lv' := [(0, .ref G.2.2.2.2.2.1), (1, .ref (G.2.1 + 0)), (2, .ref (G.2.1 + 79)), (3, .ref (G.2.1 + 124)), (4, .int x4)]) [0, 1, 2, 3, 4] rfl ?_
                exact hk26 _
              · refine ev_aload_n dd_L_law_1814 3 rfl ?_
                refine ev_iconst (v := 0) dd_L_law_1815 (by decide) ?_
                refine ev_lald dd_L_law_1816 zs_124 za_124 ?_
                refine ev_iload dd_L_law_1817 5 rfl ?_
                refine ev_lv (lv' := [(0, .ref G.2.2.2.2.2.1), (1, .ref (G.2.1 + 0)), (2, .ref (G.2.1 + 79)), (3, .ref (G.2.1 + 124)), (4, .int x4)]) [0, 1, 2, 3, 4] rfl ?_
                refine ev_i2l dd_L_law_1819 ?_
                refine ev_lcmp dd_L_law_1820 ?_
                refine ev_if_eq 1826 dd_L_law_1821 (by decide) ?_ ?_
                · exact hk26 _
                · refine ev_lv (lv' := [(0, .ref G.2.2.2.2.2.1), (1, .ref (G.2.1 + 0)), (2, .ref (G.2.1 + 79)), (3, .ref (G.2.1 + 124))]) [0, 1, 2, 3] rfl ?_
                  refine ev_iconst (v := 0) dd_L_law_1824 (by decide) ?_
                  exact ev_zret dd_L_law_1825 rfl (by show w + 2 ≤ 2100; omega) rfl
          · refine ev_lv (lv' := [(0, .ref G.2.2.2.2.2.1), (1, .ref (G.2.1 + 0)), (2, .ref (G.2.1 + 79)), (3, .ref (G.2.1 + 124))]) [0, 1, 2, 3] rfl ?_
            refine ev_iconst (v := 0) dd_L_law_1807 (by decide) ?_
            exact ev_zret dd_L_law_1808 rfl (by show w + 2 ≤ 2100; omega) rfl
        refine ev_it (fun hs29 => ?_) (fun hs29 => ?_)
        · refine ev_tabIn (off := 1789) (tgt := 1829) dd_L_law_40 28 hs29 (by decide +kernel) ?_
          refine ev_aload_n dd_L_law_1829 1 rfl ?_
          refine ev_aload_n dd_L_law_1830 0 rfl ?_
          refine ev_iload dd_L_law_1831 4 rfl ?_
          refine ev_iconst (v := 1) dd_L_law_1833 (by decide) ?_
          refine ev_iadd dd_L_law_1834 ?_
          refine ev_sld dd_L_law_1835 ?_
          refine ev_aload_n dd_L_law_1836 3 rfl ?_
          refine ev_callHI (u' := (w + 1)) (As := [.ref (G.2.1 + 0), .int (G.2.2.2.2.2.2.2 (zix (x4 + 1))), .ref (G.2.1 + 124)]) cl_RL_206 (ct_L_look l hl G 0 zs_0 (G.2.2.2.2.2.2.2 (zix (x4 + 1))) 124 zs_124 M) dd_L_law_1837 (by decide) rfl (by show w + 1 ≤ 2100; omega) (Nat.le_of_ble_eq_true rfl) rfl rfl (fun r77 M104 => ?_)
          refine ev_istore (i := 5) (lv' := [(0, .ref G.2.2.2.2.2.1), (1, .ref (G.2.1 + 0)), (2, .ref (G.2.1 + 79)), (3, .ref (G.2.1 + 124)), (4, .int x4), (5, .int r77)]) [1, 2, 3, 4, 5, 0] dd_L_law_1840 (by decide) rfl ?_
          refine ev_aload_n dd_L_law_1842 2 rfl ?_
          refine ev_aload_n dd_L_law_1843 0 rfl ?_
          refine ev_iload dd_L_law_1844 4 rfl ?_
          refine ev_iconst (v := 1) dd_L_law_1846 (by decide) ?_
          refine ev_iadd dd_L_law_1847 ?_
          refine ev_sld dd_L_law_1848 ?_
          refine ev_callVI (As := [.int (G.2.2.2.2.2.2.2 (zix (x4 + 1)))]) cl_RL_208 (ct_X12_look l hl G 79 zs_79 (G.2.2.2.2.2.2.2 (zix (x4 + 1))) M104) dd_L_law_1849 zs_79 (by decide) (by show w + 1 ≤ 2100; omega) (Nat.le_of_ble_eq_true rfl) rfl rfl (fun r78 M105 => ?_)
          refine ev_istore (i := 6) (lv' := [(0, .ref G.2.2.2.2.2.1), (1, .ref (G.2.1 + 0)), (2, .ref (G.2.1 + 79)), (3, .ref (G.2.1 + 124)), (4, .int x4), (5, .int r77), (6, .int r78)]) [1, 2, 3, 4, 5, 6, 0] dd_L_law_1852 (by decide) rfl ?_
          refine ev_aload_n dd_L_law_1854 2 rfl ?_
          refine ev_callVI (As := []) cl_RL_117 (ct_X12_thrown l hl G 79 zs_79 M105) dd_L_law_1855 zs_79 (by decide) (by show w + 1 ≤ 2100; omega) (Nat.le_of_ble_eq_true rfl) rfl rfl (fun r79 M106 => ?_)
          refine ev_iload dd_L_law_1858 5 rfl ?_
          refine ev_icmp_eq 1865 dd_L_law_1860 (by decide) ?_ ?_
          · refine ev_iload dd_L_law_1865 5 rfl ?_
            refine ev_lv (lv' := [(0, .ref G.2.2.2.2.2.1), (1, .ref (G.2.1 + 0)), (2, .ref (G.2.1 + 79)), (3, .ref (G.2.1 + 124)), (4, .int x4), (6, .int r78)]) [0, 1, 2, 3, 4, 6] rfl ?_
            refine ev_jo (fun (k27 : zM → zO) => ∀  (M107 : zM), zEv l G Y_L_law 200 (w + 1) 1882 [(0, .ref G.2.2.2.2.2.1), (1, .ref (G.2.1 + 0)), (2, .ref (G.2.1 + 79)), (3, .ref (G.2.1 + 124)), (4, .int x4)] [] M107 (k27 M107)) ?_ (fun k27 hk27 => ?_)
            · intro M107
              refine ev_goto 2261 dd_L_law_1882 (by decide) ?_
              refine ev_u (u' := w + 4) (by show w + 1 ≤ w + 4; omega) ?_
              exact hk1 _
            · refine ev_if_ne 1882 dd_L_law_1867 (by decide) ?_ ?_
              · refine ev_lv (lv' := [(0, .ref G.2.2.2.2.2.1), (1, .ref (G.2.1 + 0)), (2, .ref (G.2.1 + 79)), (3, .ref (G.2.1 + 124)), (4, .int x4)]) [0, 1, 2, 3, 4] rfl ?_
                exact hk27 _
              · refine ev_aload_n dd_L_law_1870 3 rfl ?_
                refine ev_iconst (v := 0) dd_L_law_1871 (by decide) ?_
                refine ev_lald dd_L_law_1872 zs_124 za_124 ?_
                refine ev_iload dd_L_law_1873 5 rfl ?_
                refine ev_lv (lv' := [(0, .ref G.2.2.2.2.2.1), (1, .ref (G.2.1 + 0)), (2, .ref (G.2.1 + 79)), (3, .ref (G.2.1 + 124)), (4, .int x4)]) [0, 1, 2, 3, 4] rfl ?_
                refine ev_i2l dd_L_law_1875 ?_
                refine ev_lcmp dd_L_law_1876 ?_
                refine ev_if_eq 1882 dd_L_law_1877 (by decide) ?_ ?_
                · exact hk27 _
                · refine ev_lv (lv' := [(0, .ref G.2.2.2.2.2.1), (1, .ref (G.2.1 + 0)), (2, .ref (G.2.1 + 79)), (3, .ref (G.2.1 + 124))]) [0, 1, 2, 3] rfl ?_
                  refine ev_iconst (v := 0) dd_L_law_1880 (by decide) ?_
                  exact ev_zret dd_L_law_1881 rfl (by show w + 1 ≤ 2100; omega) rfl
          · refine ev_lv (lv' := [(0, .ref G.2.2.2.2.2.1), (1, .ref (G.2.1 + 0)), (2, .ref (G.2.1 + 79)), (3, .ref (G.2.1 + 124))]) [0, 1, 2, 3] rfl ?_
            refine ev_iconst (v := 0) dd_L_law_1863 (by decide) ?_
            exact ev_zret dd_L_law_1864 rfl (by show w + 1 ≤ 2100; omega) rfl
        refine ev_it (fun hs30 => ?_) (fun hs30 => ?_)
        · refine ev_tabIn (off := 1845) (tgt := 1885) dd_L_law_40 29 hs30 (by decide +kernel) ?_
          refine ev_aload_n dd_L_law_1885 1 rfl ?_
          refine ev_aload_n dd_L_law_1886 0 rfl ?_
          refine ev_iload dd_L_law_1887 4 rfl ?_
          refine ev_iconst (v := 1) dd_L_law_1889 (by decide) ?_
          refine ev_iadd dd_L_law_1890 ?_
          refine ev_sld dd_L_law_1891 ?_
          refine ev_aload_n dd_L_law_1892 0 rfl ?_
          refine ev_iload dd_L_law_1893 4 rfl ?_
          refine ev_iconst (v := 2) dd_L_law_1895 (by decide) ?_
          refine ev_iadd dd_L_law_1896 ?_
          refine ev_sld dd_L_law_1897 ?_
          refine ev_aload_n dd_L_law_1898 0 rfl ?_
          refine ev_iload dd_L_law_1899 4 rfl ?_
          refine ev_iconst (v := 3) dd_L_law_1901 (by decide) ?_
          refine ev_iadd dd_L_law_1902 ?_
          refine ev_sld dd_L_law_1903 ?_
          refine ev_aload_n dd_L_law_1904 3 rfl ?_
          refine ev_callHI (u' := (w + 4)) (As := [.ref (G.2.1 + 0), .int (G.2.2.2.2.2.2.2 (zix (x4 + 1))), .int (G.2.2.2.2.2.2.2 (zix (x4 + 2))), .int (G.2.2.2.2.2.2.2 (zix (x4 + 3))), .ref (G.2.1 + 124)]) cl_RL_209 (ct_L_clerks l hl G 0 zs_0 (G.2.2.2.2.2.2.2 (zix (x4 + 1))) (G.2.2.2.2.2.2.2 (zix (x4 + 2))) (G.2.2.2.2.2.2.2 (zix (x4 + 3))) 124 zs_124 M) dd_L_law_1905 (by decide) rfl (by show w + 4 ≤ 2100; omega) (Nat.le_of_ble_eq_true rfl) rfl rfl (fun r80 M108 => ?_)
          refine ev_istore (i := 5) (lv' := [(0, .ref G.2.2.2.2.2.1), (1, .ref (G.2.1 + 0)), (2, .ref (G.2.1 + 79)), (3, .ref (G.2.1 + 124)), (4, .int x4), (5, .int r80)]) [1, 2, 3, 4, 5, 0] dd_L_law_1908 (by decide) rfl ?_
          refine ev_aload_n dd_L_law_1910 2 rfl ?_
          refine ev_aload_n dd_L_law_1911 0 rfl ?_
          refine ev_iload dd_L_law_1912 4 rfl ?_
          refine ev_iconst (v := 1) dd_L_law_1914 (by decide) ?_
          refine ev_iadd dd_L_law_1915 ?_
          refine ev_sld dd_L_law_1916 ?_
          refine ev_aload_n dd_L_law_1917 0 rfl ?_
          refine ev_iload dd_L_law_1918 4 rfl ?_
          refine ev_iconst (v := 2) dd_L_law_1920 (by decide) ?_
          refine ev_iadd dd_L_law_1921 ?_
          refine ev_sld dd_L_law_1922 ?_
          refine ev_aload_n dd_L_law_1923 0 rfl ?_
          refine ev_iload dd_L_law_1924 4 rfl ?_
          refine ev_iconst (v := 3) dd_L_law_1926 (by decide) ?_
          refine ev_iadd dd_L_law_1927 ?_
          refine ev_sld dd_L_law_1928 ?_
          refine ev_callVI (As := [.int (G.2.2.2.2.2.2.2 (zix (x4 + 1))), .int (G.2.2.2.2.2.2.2 (zix (x4 + 2))), .int (G.2.2.2.2.2.2.2 (zix (x4 + 3)))]) cl_RL_211 (ct_X12_clerks l hl G 79 zs_79 (G.2.2.2.2.2.2.2 (zix (x4 + 1))) (G.2.2.2.2.2.2.2 (zix (x4 + 2))) (G.2.2.2.2.2.2.2 (zix (x4 + 3))) M108) dd_L_law_1929 zs_79 (by decide) (by show w + 4 ≤ 2100; omega) (Nat.le_of_ble_eq_true rfl) rfl rfl (fun r81 M109 => ?_)
          refine ev_istore (i := 6) (lv' := [(0, .ref G.2.2.2.2.2.1), (1, .ref (G.2.1 + 0)), (2, .ref (G.2.1 + 79)), (3, .ref (G.2.1 + 124)), (4, .int x4), (5, .int r80), (6, .int r81)]) [1, 2, 3, 4, 5, 6, 0] dd_L_law_1932 (by decide) rfl ?_
          refine ev_aload_n dd_L_law_1934 2 rfl ?_
          refine ev_callVI (As := []) cl_RL_117 (ct_X12_thrown l hl G 79 zs_79 M109) dd_L_law_1935 zs_79 (by decide) (by show w + 4 ≤ 2100; omega) (Nat.le_of_ble_eq_true rfl) rfl rfl (fun r82 M110 => ?_)
          refine ev_iload dd_L_law_1938 5 rfl ?_
          refine ev_icmp_eq 1945 dd_L_law_1940 (by decide) ?_ ?_
          · refine ev_iload dd_L_law_1945 5 rfl ?_
            refine ev_lv (lv' := [(0, .ref G.2.2.2.2.2.1), (1, .ref (G.2.1 + 0)), (2, .ref (G.2.1 + 79)), (3, .ref (G.2.1 + 124)), (4, .int x4), (6, .int r81)]) [0, 1, 2, 3, 4, 6] rfl ?_
            refine ev_jo (fun (k28 : zM → zO) => ∀  (M111 : zM), zEv l G Y_L_law 200 (w + 4) 1962 [(0, .ref G.2.2.2.2.2.1), (1, .ref (G.2.1 + 0)), (2, .ref (G.2.1 + 79)), (3, .ref (G.2.1 + 124)), (4, .int x4)] [] M111 (k28 M111)) ?_ (fun k28 hk28 => ?_)
            · intro M111
              refine ev_goto 2261 dd_L_law_1962 (by decide) ?_
              exact hk1 _
            · refine ev_if_ne 1962 dd_L_law_1947 (by decide) ?_ ?_
              · refine ev_lv (lv' := [(0, .ref G.2.2.2.2.2.1), (1, .ref (G.2.1 + 0)), (2, .ref (G.2.1 + 79)), (3, .ref (G.2.1 + 124)), (4, .int x4)]) [0, 1, 2, 3, 4] rfl ?_
                exact hk28 _
              · refine ev_aload_n dd_L_law_1950 3 rfl ?_
                refine ev_iconst (v := 0) dd_L_law_1951 (by decide) ?_
                refine ev_lald dd_L_law_1952 zs_124 za_124 ?_
                refine ev_iload dd_L_law_1953 5 rfl ?_
                refine ev_lv (lv' := [(0, .ref G.2.2.2.2.2.1), (1, .ref (G.2.1 + 0)), (2, .ref (G.2.1 + 79)), (3, .ref (G.2.1 + 124)), (4, .int x4)]) [0, 1, 2, 3, 4] rfl ?_
                refine ev_i2l dd_L_law_1955 ?_
                refine ev_lcmp dd_L_law_1956 ?_
                refine ev_if_eq 1962 dd_L_law_1957 (by decide) ?_ ?_
                · exact hk28 _
                · refine ev_lv (lv' := [(0, .ref G.2.2.2.2.2.1), (1, .ref (G.2.1 + 0)), (2, .ref (G.2.1 + 79)), (3, .ref (G.2.1 + 124))]) [0, 1, 2, 3] rfl ?_
                  refine ev_iconst (v := 0) dd_L_law_1960 (by decide) ?_
                  exact ev_zret dd_L_law_1961 rfl (by show w + 4 ≤ 2100; omega) rfl
          · refine ev_lv (lv' := [(0, .ref G.2.2.2.2.2.1), (1, .ref (G.2.1 + 0)), (2, .ref (G.2.1 + 79)), (3, .ref (G.2.1 + 124))]) [0, 1, 2, 3] rfl ?_
            refine ev_iconst (v := 0) dd_L_law_1943 (by decide) ?_
            exact ev_zret dd_L_law_1944 rfl (by show w + 4 ≤ 2100; omega) rfl
        refine ev_it (fun hs31 => ?_) (fun hs31 => ?_)
        · refine ev_tabIn (off := 1925) (tgt := 1965) dd_L_law_40 30 hs31 (by decide +kernel) ?_
          refine ev_aload_n dd_L_law_1965 1 rfl ?_
          refine ev_aload_n dd_L_law_1966 0 rfl ?_
          refine ev_iload dd_L_law_1967 4 rfl ?_
          refine ev_iconst (v := 1) dd_L_law_1969 (by decide) ?_
          refine ev_iadd dd_L_law_1970 ?_
          refine ev_sld dd_L_law_1971 ?_
          refine ev_aload_n dd_L_law_1972 0 rfl ?_
          refine ev_iload dd_L_law_1973 4 rfl ?_
          refine ev_iconst (v := 2) dd_L_law_1975 (by decide) ?_
          refine ev_iadd dd_L_law_1976 ?_
          refine ev_sld dd_L_law_1977 ?_
          refine ev_aload_n dd_L_law_1978 0 rfl ?_
          refine ev_iload dd_L_law_1979 4 rfl ?_
          refine ev_iconst (v := 3) dd_L_law_1981 (by decide) ?_
          refine ev_iadd dd_L_law_1982 ?_
          refine ev_sld dd_L_law_1983 ?_
          refine ev_aload_n dd_L_law_1984 3 rfl ?_
          refine ev_callHI (u' := (w + 2)) (As := [.ref (G.2.1 + 0), .int (G.2.2.2.2.2.2.2 (zix (x4 + 1))), .int (G.2.2.2.2.2.2.2 (zix (x4 + 2))), .int (G.2.2.2.2.2.2.2 (zix (x4 + 3))), .ref (G.2.1 + 124)]) cl_RL_212 (ct_L_century l hl G 0 zs_0 (G.2.2.2.2.2.2.2 (zix (x4 + 1))) (G.2.2.2.2.2.2.2 (zix (x4 + 2))) (G.2.2.2.2.2.2.2 (zix (x4 + 3))) 124 zs_124 M) dd_L_law_1985 (by decide) rfl (by show w + 2 ≤ 2100; omega) (Nat.le_of_ble_eq_true rfl) rfl rfl (fun r83 M112 => ?_)
          refine ev_istore (i := 5) (lv' := [(0, .ref G.2.2.2.2.2.1), (1, .ref (G.2.1 + 0)), (2, .ref (G.2.1 + 79)), (3, .ref (G.2.1 + 124)), (4, .int x4), (5, .int r83)]) [1, 2, 3, 4, 5, 0] dd_L_law_1988 (by decide) rfl ?_
          refine ev_aload_n dd_L_law_1990 2 rfl ?_
          refine ev_aload_n dd_L_law_1991 0 rfl ?_
          refine ev_iload dd_L_law_1992 4 rfl ?_
          refine ev_iconst (v := 1) dd_L_law_1994 (by decide) ?_
          refine ev_iadd dd_L_law_1995 ?_
          refine ev_sld dd_L_law_1996 ?_
          refine ev_aload_n dd_L_law_1997 0 rfl ?_
          refine ev_iload dd_L_law_1998 4 rfl ?_
          refine ev_iconst (v := 2) dd_L_law_2000 (by decide) ?_
          refine ev_iadd dd_L_law_2001 ?_
          refine ev_sld dd_L_law_2002 ?_
          refine ev_aload_n dd_L_law_2003 0 rfl ?_
          refine ev_iload dd_L_law_2004 4 rfl ?_
          refine ev_iconst (v := 3) dd_L_law_2006 (by decide) ?_
          refine ev_iadd dd_L_law_2007 ?_
          refine ev_sld dd_L_law_2008 ?_
          refine ev_callVI (As := [.int (G.2.2.2.2.2.2.2 (zix (x4 + 1))), .int (G.2.2.2.2.2.2.2 (zix (x4 + 2))), .int (G.2.2.2.2.2.2.2 (zix (x4 + 3)))]) cl_RL_214 (ct_X12_century l hl G 79 zs_79 (G.2.2.2.2.2.2.2 (zix (x4 + 1))) (G.2.2.2.2.2.2.2 (zix (x4 + 2))) (G.2.2.2.2.2.2.2 (zix (x4 + 3))) M112) dd_L_law_2009 zs_79 (by decide) (by show w + 2 ≤ 2100; omega) (Nat.le_of_ble_eq_true rfl) rfl rfl (fun r84 M113 => ?_)
          refine ev_istore (i := 6) (lv' := [(0, .ref G.2.2.2.2.2.1), (1, .ref (G.2.1 + 0)), (2, .ref (G.2.1 + 79)), (3, .ref (G.2.1 + 124)), (4, .int x4), (5, .int r83), (6, .int r84)]) [1, 2, 3, 4, 5, 6, 0] dd_L_law_2012 (by decide) rfl ?_
          refine ev_aload_n dd_L_law_2014 2 rfl ?_
          refine ev_callVI (As := []) cl_RL_117 (ct_X12_thrown l hl G 79 zs_79 M113) dd_L_law_2015 zs_79 (by decide) (by show w + 2 ≤ 2100; omega) (Nat.le_of_ble_eq_true rfl) rfl rfl (fun r85 M114 => ?_)
          refine ev_iload dd_L_law_2018 5 rfl ?_
          refine ev_icmp_eq 2025 dd_L_law_2020 (by decide) ?_ ?_
          · refine ev_iload dd_L_law_2025 5 rfl ?_
            refine ev_lv (lv' := [(0, .ref G.2.2.2.2.2.1), (1, .ref (G.2.1 + 0)), (2, .ref (G.2.1 + 79)), (3, .ref (G.2.1 + 124)), (4, .int x4), (6, .int r84)]) [0, 1, 2, 3, 4, 6] rfl ?_
            refine ev_jo (fun (k29 : zM → zO) => ∀  (M115 : zM), zEv l G Y_L_law 200 (w + 2) 2042 [(0, .ref G.2.2.2.2.2.1), (1, .ref (G.2.1 + 0)), (2, .ref (G.2.1 + 79)), (3, .ref (G.2.1 + 124)), (4, .int x4)] [] M115 (k29 M115)) ?_ (fun k29 hk29 => ?_)
            · intro M115
              refine ev_goto 2261 dd_L_law_2042 (by decide) ?_
              refine ev_u (u' := w + 4) (by show w + 2 ≤ w + 4; omega) ?_
              exact hk1 _
            · refine ev_if_ne 2042 dd_L_law_2027 (by decide) ?_ ?_
              · refine ev_lv (lv' := [(0, .ref G.2.2.2.2.2.1), (1, .ref (G.2.1 + 0)), (2, .ref (G.2.1 + 79)), (3, .ref (G.2.1 + 124)), (4, .int x4)]) [0, 1, 2, 3, 4] rfl ?_
                exact hk29 _
              · refine ev_aload_n dd_L_law_2030 3 rfl ?_
                refine ev_iconst (v := 0) dd_L_law_2031 (by decide) ?_
                refine ev_lald dd_L_law_2032 zs_124 za_124 ?_
                refine ev_iload dd_L_law_2033 5 rfl ?_
                refine ev_lv (lv' := [(0, .ref G.2.2.2.2.2.1), (1, .ref (G.2.1 + 0)), (2, .ref (G.2.1 + 79)), (3, .ref (G.2.1 + 124)), (4, .int x4)]) [0, 1, 2, 3, 4] rfl ?_
                refine ev_i2l dd_L_law_2035 ?_
                refine ev_lcmp dd_L_law_2036 ?_
                refine ev_if_eq 2042 dd_L_law_2037 (by decide) ?_ ?_
                · exact hk29 _
                · refine ev_lv (lv' := [(0, .ref G.2.2.2.2.2.1), (1, .ref (G.2.1 + 0)), (2, .ref (G.2.1 + 79)), (3, .ref (G.2.1 + 124))]) [0, 1, 2, 3] rfl ?_
                  refine ev_iconst (v := 0) dd_L_law_2040 (by decide) ?_
                  exact ev_zret dd_L_law_2041 rfl (by show w + 2 ≤ 2100; omega) rfl
          · refine ev_lv (lv' := [(0, .ref G.2.2.2.2.2.1), (1, .ref (G.2.1 + 0)), (2, .ref (G.2.1 + 79)), (3, .ref (G.2.1 + 124))]) [0, 1, 2, 3] rfl ?_
            refine ev_iconst (v := 0) dd_L_law_2023 (by decide) ?_
            exact ev_zret dd_L_law_2024 rfl (by show w + 2 ≤ 2100; omega) rfl
        refine ev_it (fun hs32 => ?_) (fun hs32 => ?_)
        · refine ev_tabIn (off := 2005) (tgt := 2045) dd_L_law_40 31 hs32 (by decide +kernel) ?_
          refine ev_aload_n dd_L_law_2045 1 rfl ?_
          refine ev_aload_n dd_L_law_2046 0 rfl ?_
          refine ev_iload dd_L_law_2047 4 rfl ?_
          refine ev_iconst (v := 1) dd_L_law_2049 (by decide) ?_
          refine ev_iadd dd_L_law_2050 ?_
          refine ev_sld dd_L_law_2051 ?_
          refine ev_aload_n dd_L_law_2052 0 rfl ?_
          refine ev_iload dd_L_law_2053 4 rfl ?_
          refine ev_iconst (v := 2) dd_L_law_2055 (by decide) ?_
          refine ev_iadd dd_L_law_2056 ?_
          refine ev_sld dd_L_law_2057 ?_
          refine ev_aload_n dd_L_law_2058 0 rfl ?_
          refine ev_iload dd_L_law_2059 4 rfl ?_
          refine ev_iconst (v := 3) dd_L_law_2061 (by decide) ?_
          refine ev_iadd dd_L_law_2062 ?_
          refine ev_sld dd_L_law_2063 ?_
          refine ev_aload_n dd_L_law_2064 3 rfl ?_
          refine ev_callHI (u' := (w + 3)) (As := [.ref (G.2.1 + 0), .int (G.2.2.2.2.2.2.2 (zix (x4 + 1))), .int (G.2.2.2.2.2.2.2 (zix (x4 + 2))), .int (G.2.2.2.2.2.2.2 (zix (x4 + 3))), .ref (G.2.1 + 124)]) cl_RL_215 (ct_L_weather l hl G 0 zs_0 (G.2.2.2.2.2.2.2 (zix (x4 + 1))) (G.2.2.2.2.2.2.2 (zix (x4 + 2))) (G.2.2.2.2.2.2.2 (zix (x4 + 3))) 124 zs_124 M) dd_L_law_2065 (by decide) rfl (by show w + 3 ≤ 2100; omega) (Nat.le_of_ble_eq_true rfl) rfl rfl (fun r86 M116 => ?_)
          refine ev_istore (i := 5) (lv' := [(0, .ref G.2.2.2.2.2.1), (1, .ref (G.2.1 + 0)), (2, .ref (G.2.1 + 79)), (3, .ref (G.2.1 + 124)), (4, .int x4), (5, .int r86)]) [1, 2, 3, 4, 5, 0] dd_L_law_2068 (by decide) rfl ?_
          refine ev_aload_n dd_L_law_2070 2 rfl ?_
          refine ev_aload_n dd_L_law_2071 0 rfl ?_
          refine ev_iload dd_L_law_2072 4 rfl ?_
          refine ev_iconst (v := 1) dd_L_law_2074 (by decide) ?_
          refine ev_iadd dd_L_law_2075 ?_
          refine ev_sld dd_L_law_2076 ?_
          refine ev_aload_n dd_L_law_2077 0 rfl ?_
          refine ev_iload dd_L_law_2078 4 rfl ?_
          refine ev_iconst (v := 2) dd_L_law_2080 (by decide) ?_
          refine ev_iadd dd_L_law_2081 ?_
          refine ev_sld dd_L_law_2082 ?_
          refine ev_aload_n dd_L_law_2083 0 rfl ?_
          refine ev_iload dd_L_law_2084 4 rfl ?_
          refine ev_iconst (v := 3) dd_L_law_2086 (by decide) ?_
          refine ev_iadd dd_L_law_2087 ?_
          refine ev_sld dd_L_law_2088 ?_
          refine ev_callVI (As := [.int (G.2.2.2.2.2.2.2 (zix (x4 + 1))), .int (G.2.2.2.2.2.2.2 (zix (x4 + 2))), .int (G.2.2.2.2.2.2.2 (zix (x4 + 3)))]) cl_RL_217 (ct_X12_weather l hl G 79 zs_79 (G.2.2.2.2.2.2.2 (zix (x4 + 1))) (G.2.2.2.2.2.2.2 (zix (x4 + 2))) (G.2.2.2.2.2.2.2 (zix (x4 + 3))) M116) dd_L_law_2089 zs_79 (by decide) (by show w + 3 ≤ 2100; omega) (Nat.le_of_ble_eq_true rfl) rfl rfl (fun r87 M117 => ?_)
          refine ev_istore (i := 6) (lv' := [(0, .ref G.2.2.2.2.2.1), (1, .ref (G.2.1 + 0)), (2, .ref (G.2.1 + 79)), (3, .ref (G.2.1 + 124)), (4, .int x4), (5, .int r86), (6, .int r87)]) [1, 2, 3, 4, 5, 6, 0] dd_L_law_2092 (by decide) rfl ?_
          refine ev_aload_n dd_L_law_2094 2 rfl ?_
          refine ev_callVI (As := []) cl_RL_117 (ct_X12_thrown l hl G 79 zs_79 M117) dd_L_law_2095 zs_79 (by decide) (by show w + 3 ≤ 2100; omega) (Nat.le_of_ble_eq_true rfl) rfl rfl (fun r88 M118 => ?_)
          refine ev_iload dd_L_law_2098 5 rfl ?_
          refine ev_icmp_eq 2105 dd_L_law_2100 (by decide) ?_ ?_
          · refine ev_iload dd_L_law_2105 5 rfl ?_
            refine ev_lv (lv' := [(0, .ref G.2.2.2.2.2.1), (1, .ref (G.2.1 + 0)), (2, .ref (G.2.1 + 79)), (3, .ref (G.2.1 + 124)), (4, .int x4), (6, .int r87)]) [0, 1, 2, 3, 4, 6] rfl ?_
            refine ev_jo (fun (k30 : zM → zO) => ∀  (M119 : zM), zEv l G Y_L_law 200 (w + 3) 2122 [(0, .ref G.2.2.2.2.2.1), (1, .ref (G.2.1 + 0)), (2, .ref (G.2.1 + 79)), (3, .ref (G.2.1 + 124)), (4, .int x4)] [] M119 (k30 M119)) ?_ (fun k30 hk30 => ?_)
            · intro M119
              refine ev_goto 2261 dd_L_law_2122 (by decide) ?_
              refine ev_u (u' := w + 4) (by show w + 3 ≤ w + 4; omega) ?_
              exact hk1 _
            · refine ev_if_ne 2122 dd_L_law_2107 (by decide) ?_ ?_
              · refine ev_lv (lv' := [(0, .ref G.2.2.2.2.2.1), (1, .ref (G.2.1 + 0)), (2, .ref (G.2.1 + 79)), (3, .ref (G.2.1 + 124)), (4, .int x4)]) [0, 1, 2, 3, 4] rfl ?_
                exact hk30 _
              · refine ev_aload_n dd_L_law_2110 3 rfl ?_
                refine ev_iconst (v := 0) dd_L_law_2111 (by decide) ?_
                refine ev_lald dd_L_law_2112 zs_124 za_124 ?_
                refine ev_iload dd_L_law_2113 5 rfl ?_
                refine ev_lv (lv' := [(0, .ref G.2.2.2.2.2.1), (1, .ref (G.2.1 + 0)), (2, .ref (G.2.1 + 79)), (3, .ref (G.2.1 + 124)), (4, .int x4)]) [0, 1, 2, 3, 4] rfl ?_
                refine ev_i2l dd_L_law_2115 ?_
                refine ev_lcmp dd_L_law_2116 ?_
                refine ev_if_eq 2122 dd_L_law_2117 (by decide) ?_ ?_
                · exact hk30 _
                · refine ev_lv (lv' := [(0, .ref G.2.2.2.2.2.1), (1, .ref (G.2.1 + 0)), (2, .ref (G.2.1 + 79)), (3, .ref (G.2.1 + 124))]) [0, 1, 2, 3] rfl ?_
                  refine ev_iconst (v := 0) dd_L_law_2120 (by decide) ?_
                  exact ev_zret dd_L_law_2121 rfl (by show w + 3 ≤ 2100; omega) rfl
          · refine ev_lv (lv' := [(0, .ref G.2.2.2.2.2.1), (1, .ref (G.2.1 + 0)), (2, .ref (G.2.1 + 79)), (3, .ref (G.2.1 + 124))]) [0, 1, 2, 3] rfl ?_
            refine ev_iconst (v := 0) dd_L_law_2103 (by decide) ?_
            exact ev_zret dd_L_law_2104 rfl (by show w + 3 ≤ 2100; omega) rfl
        refine ev_it (fun hs33 => ?_) (fun hs33 => ?_)
        · refine ev_tabIn (off := 2085) (tgt := 2125) dd_L_law_40 32 hs33 (by decide +kernel) ?_
          refine ev_aload_n dd_L_law_2125 1 rfl ?_
          refine ev_aload_n dd_L_law_2126 0 rfl ?_
          refine ev_iload dd_L_law_2127 4 rfl ?_
          refine ev_iconst (v := 1) dd_L_law_2129 (by decide) ?_
          refine ev_iadd dd_L_law_2130 ?_
          refine ev_sld dd_L_law_2131 ?_
          refine ev_aload_n dd_L_law_2132 3 rfl ?_
          refine ev_callHI (u' := (w + 1)) (As := [.ref (G.2.1 + 0), .int (G.2.2.2.2.2.2.2 (zix (x4 + 1))), .ref (G.2.1 + 124)]) cl_RL_218 (ct_L_owed l hl G 0 zs_0 (G.2.2.2.2.2.2.2 (zix (x4 + 1))) 124 zs_124 M) dd_L_law_2133 (by decide) rfl (by show w + 1 ≤ 2100; omega) (Nat.le_of_ble_eq_true rfl) rfl rfl (fun r89 M120 => ?_)
          refine ev_istore (i := 5) (lv' := [(0, .ref G.2.2.2.2.2.1), (1, .ref (G.2.1 + 0)), (2, .ref (G.2.1 + 79)), (3, .ref (G.2.1 + 124)), (4, .int x4), (5, .int r89)]) [1, 2, 3, 4, 5, 0] dd_L_law_2136 (by decide) rfl ?_
          refine ev_aload_n dd_L_law_2138 2 rfl ?_
          refine ev_aload_n dd_L_law_2139 0 rfl ?_
          refine ev_iload dd_L_law_2140 4 rfl ?_
          refine ev_iconst (v := 1) dd_L_law_2142 (by decide) ?_
          refine ev_iadd dd_L_law_2143 ?_
          refine ev_sld dd_L_law_2144 ?_
          refine ev_callVI (As := [.int (G.2.2.2.2.2.2.2 (zix (x4 + 1)))]) cl_RL_220 (ct_X12_owed l hl G 79 zs_79 (G.2.2.2.2.2.2.2 (zix (x4 + 1))) M120) dd_L_law_2145 zs_79 (by decide) (by show w + 1 ≤ 2100; omega) (Nat.le_of_ble_eq_true rfl) rfl rfl (fun r90 M121 => ?_)
          refine ev_istore (i := 6) (lv' := [(0, .ref G.2.2.2.2.2.1), (1, .ref (G.2.1 + 0)), (2, .ref (G.2.1 + 79)), (3, .ref (G.2.1 + 124)), (4, .int x4), (5, .int r89), (6, .int r90)]) [1, 2, 3, 4, 5, 6, 0] dd_L_law_2148 (by decide) rfl ?_
          refine ev_aload_n dd_L_law_2150 2 rfl ?_
          refine ev_callVI (As := []) cl_RL_117 (ct_X12_thrown l hl G 79 zs_79 M121) dd_L_law_2151 zs_79 (by decide) (by show w + 1 ≤ 2100; omega) (Nat.le_of_ble_eq_true rfl) rfl rfl (fun r91 M122 => ?_)
          refine ev_iload dd_L_law_2154 5 rfl ?_
          refine ev_icmp_eq 2161 dd_L_law_2156 (by decide) ?_ ?_
          · refine ev_iload dd_L_law_2161 5 rfl ?_
            refine ev_lv (lv' := [(0, .ref G.2.2.2.2.2.1), (1, .ref (G.2.1 + 0)), (2, .ref (G.2.1 + 79)), (3, .ref (G.2.1 + 124)), (4, .int x4), (6, .int r90)]) [0, 1, 2, 3, 4, 6] rfl ?_
            refine ev_jo (fun (k31 : zM → zO) => ∀  (M123 : zM), zEv l G Y_L_law 200 (w + 1) 2178 [(0, .ref G.2.2.2.2.2.1), (1, .ref (G.2.1 + 0)), (2, .ref (G.2.1 + 79)), (3, .ref (G.2.1 + 124)), (4, .int x4)] [] M123 (k31 M123)) ?_ (fun k31 hk31 => ?_)
            · intro M123
              refine ev_goto 2261 dd_L_law_2178 (by decide) ?_
              refine ev_u (u' := w + 4) (by show w + 1 ≤ w + 4; omega) ?_
              exact hk1 _
            · refine ev_if_ne 2178 dd_L_law_2163 (by decide) ?_ ?_
              · refine ev_lv (lv' := [(0, .ref G.2.2.2.2.2.1), (1, .ref (G.2.1 + 0)), (2, .ref (G.2.1 + 79)), (3, .ref (G.2.1 + 124)), (4, .int x4)]) [0, 1, 2, 3, 4] rfl ?_
                exact hk31 _
              · refine ev_aload_n dd_L_law_2166 3 rfl ?_
                refine ev_iconst (v := 0) dd_L_law_2167 (by decide) ?_
                refine ev_lald dd_L_law_2168 zs_124 za_124 ?_
                refine ev_iload dd_L_law_2169 5 rfl ?_
                refine ev_lv (lv' := [(0, .ref G.2.2.2.2.2.1), (1, .ref (G.2.1 + 0)), (2, .ref (G.2.1 + 79)), (3, .ref (G.2.1 + 124)), (4, .int x4)]) [0, 1, 2, 3, 4] rfl ?_
                refine ev_i2l dd_L_law_2171 ?_
                refine ev_lcmp dd_L_law_2172 ?_
                refine ev_if_eq 2178 dd_L_law_2173 (by decide) ?_ ?_
                · exact hk31 _
                · refine ev_lv (lv' := [(0, .ref G.2.2.2.2.2.1), (1, .ref (G.2.1 + 0)), (2, .ref (G.2.1 + 79)), (3, .ref (G.2.1 + 124))]) [0, 1, 2, 3] rfl ?_
                  refine ev_iconst (v := 0) dd_L_law_2176 (by decide) ?_
                  exact ev_zret dd_L_law_2177 rfl (by show w + 1 ≤ 2100; omega) rfl
          · refine ev_lv (lv' := [(0, .ref G.2.2.2.2.2.1), (1, .ref (G.2.1 + 0)), (2, .ref (G.2.1 + 79)), (3, .ref (G.2.1 + 124))]) [0, 1, 2, 3] rfl ?_
            refine ev_iconst (v := 0) dd_L_law_2159 (by decide) ?_
            exact ev_zret dd_L_law_2160 rfl (by show w + 1 ≤ 2100; omega) rfl
        refine ev_it (fun hs34 => ?_) (fun hs34 => ?_)
        · refine ev_tabIn (off := 2141) (tgt := 2181) dd_L_law_40 33 hs34 (by decide +kernel) ?_
          refine ev_aload_n dd_L_law_2181 1 rfl ?_
          refine ev_aload_n dd_L_law_2182 0 rfl ?_
          refine ev_iload dd_L_law_2183 4 rfl ?_
          refine ev_iconst (v := 1) dd_L_law_2185 (by decide) ?_
          refine ev_iadd dd_L_law_2186 ?_
          refine ev_sld dd_L_law_2187 ?_
          refine ev_aload_n dd_L_law_2188 3 rfl ?_
          refine ev_callHI (u' := (w + 1)) (As := [.ref (G.2.1 + 0), .int (G.2.2.2.2.2.2.2 (zix (x4 + 1))), .ref (G.2.1 + 124)]) cl_RL_221 (ct_L_caravan l hl G 0 zs_0 (G.2.2.2.2.2.2.2 (zix (x4 + 1))) 124 zs_124 M) dd_L_law_2189 (by decide) rfl (by show w + 1 ≤ 2100; omega) (Nat.le_of_ble_eq_true rfl) rfl rfl (fun r92 M124 => ?_)
          refine ev_istore (i := 5) (lv' := [(0, .ref G.2.2.2.2.2.1), (1, .ref (G.2.1 + 0)), (2, .ref (G.2.1 + 79)), (3, .ref (G.2.1 + 124)), (4, .int x4), (5, .int r92)]) [1, 2, 3, 4, 5, 0] dd_L_law_2192 (by decide) rfl ?_
          refine ev_aload_n dd_L_law_2194 2 rfl ?_
          refine ev_aload_n dd_L_law_2195 0 rfl ?_
          refine ev_iload dd_L_law_2196 4 rfl ?_
          refine ev_iconst (v := 1) dd_L_law_2198 (by decide) ?_
          refine ev_iadd dd_L_law_2199 ?_
          refine ev_sld dd_L_law_2200 ?_
          refine ev_callVI (As := [.int (G.2.2.2.2.2.2.2 (zix (x4 + 1)))]) cl_RL_223 (ct_X12_caravan l hl G 79 zs_79 (G.2.2.2.2.2.2.2 (zix (x4 + 1))) M124) dd_L_law_2201 zs_79 (by decide) (by show w + 1 ≤ 2100; omega) (Nat.le_of_ble_eq_true rfl) rfl rfl (fun r93 M125 => ?_)
          refine ev_istore (i := 6) (lv' := [(0, .ref G.2.2.2.2.2.1), (1, .ref (G.2.1 + 0)), (2, .ref (G.2.1 + 79)), (3, .ref (G.2.1 + 124)), (4, .int x4), (5, .int r92), (6, .int r93)]) [1, 2, 3, 4, 5, 6, 0] dd_L_law_2204 (by decide) rfl ?_
          refine ev_aload_n dd_L_law_2206 2 rfl ?_
          refine ev_callVI (As := []) cl_RL_117 (ct_X12_thrown l hl G 79 zs_79 M125) dd_L_law_2207 zs_79 (by decide) (by show w + 1 ≤ 2100; omega) (Nat.le_of_ble_eq_true rfl) rfl rfl (fun r94 M126 => ?_)
          refine ev_iload dd_L_law_2210 5 rfl ?_
          refine ev_icmp_eq 2217 dd_L_law_2212 (by decide) ?_ ?_
          · refine ev_iload dd_L_law_2217 5 rfl ?_
            refine ev_lv (lv' := [(0, .ref G.2.2.2.2.2.1), (1, .ref (G.2.1 + 0)), (2, .ref (G.2.1 + 79)), (3, .ref (G.2.1 + 124)), (4, .int x4), (6, .int r93)]) [0, 1, 2, 3, 4, 6] rfl ?_
            refine ev_jo (fun (k32 : zM → zO) => ∀  (M127 : zM), zEv l G Y_L_law 200 (w + 1) 2234 [(0, .ref G.2.2.2.2.2.1), (1, .ref (G.2.1 + 0)), (2, .ref (G.2.1 + 79)), (3, .ref (G.2.1 + 124)), (4, .int x4)] [] M127 (k32 M127)) ?_ (fun k32 hk32 => ?_)
            · intro M127
              refine ev_goto 2261 dd_L_law_2234 (by decide) ?_
              refine ev_u (u' := w + 4) (by show w + 1 ≤ w + 4; omega) ?_
              exact hk1 _
            · refine ev_if_ne 2234 dd_L_law_2219 (by decide) ?_ ?_
              · refine ev_lv (lv' := [(0, .ref G.2.2.2.2.2.1), (1, .ref (G.2.1 + 0)), (2, .ref (G.2.1 + 79)), (3, .ref (G.2.1 + 124)), (4, .int x4)]) [0, 1, 2, 3, 4] rfl ?_
                exact hk32 _
              · refine ev_aload_n dd_L_law_2222 3 rfl ?_
                refine ev_iconst (v := 0) dd_L_law_2223 (by decide) ?_
                refine ev_lald dd_L_law_2224 zs_124 za_124 ?_
                refine ev_iload dd_L_law_2225 5 rfl ?_
                refine ev_lv (lv' := [(0, .ref G.2.2.2.2.2.1), (1, .ref (G.2.1 + 0)), (2, .ref (G.2.1 + 79)), (3, .ref (G.2.1 + 124)), (4, .int x4)]) [0, 1, 2, 3, 4] rfl ?_
                refine ev_i2l dd_L_law_2227 ?_
                refine ev_lcmp dd_L_law_2228 ?_
                refine ev_if_eq 2234 dd_L_law_2229 (by decide) ?_ ?_
                · exact hk32 _
                · refine ev_lv (lv' := [(0, .ref G.2.2.2.2.2.1), (1, .ref (G.2.1 + 0)), (2, .ref (G.2.1 + 79)), (3, .ref (G.2.1 + 124))]) [0, 1, 2, 3] rfl ?_
                  refine ev_iconst (v := 0) dd_L_law_2232 (by decide) ?_
                  exact ev_zret dd_L_law_2233 rfl (by show w + 1 ≤ 2100; omega) rfl
          · refine ev_lv (lv' := [(0, .ref G.2.2.2.2.2.1), (1, .ref (G.2.1 + 0)), (2, .ref (G.2.1 + 79)), (3, .ref (G.2.1 + 124))]) [0, 1, 2, 3] rfl ?_
            refine ev_iconst (v := 0) dd_L_law_2215 (by decide) ?_
            exact ev_zret dd_L_law_2216 rfl (by show w + 1 ≤ 2100; omega) rfl
        refine ev_it (fun hs35 => ?_) (fun hs35 => ?_)
        · refine ev_tabIn (off := 2197) (tgt := 2237) dd_L_law_40 34 hs35 (by decide +kernel) ?_
          refine ev_aload_n dd_L_law_2237 1 rfl ?_
          refine ev_callVV (As := []) cl_RL_224 (ct_X11_image l hl G 0 zs_0 M) dd_L_law_2238 zs_0 (by decide) (by show w + 0 ≤ 2100; omega) (Nat.le_of_ble_eq_true rfl) rfl rfl (fun M128 => ?_)
          refine ev_aload_n dd_L_law_2241 2 rfl ?_
          refine ev_callVV (As := []) cl_RL_227 (ct_X12_image l hl G 79 zs_79 M128) dd_L_law_2242 zs_79 (by decide) (by show w + 0 ≤ 2100; omega) (Nat.le_of_ble_eq_true rfl) rfl rfl (fun M129 => ?_)
          refine ev_goto 2261 dd_L_law_2245 (by decide) ?_
          refine ev_u (u' := w + 4) (by show w + 0 ≤ w + 4; omega) ?_
          exact hk1 _
        refine ev_it (fun hs36 => ?_) (fun hs36 => ?_)
        · refine ev_tabIn (off := 2208) (tgt := 2248) dd_L_law_40 35 hs36 (by decide +kernel) ?_
          refine ev_aload_n dd_L_law_2248 1 rfl ?_
          refine ev_callVI (As := []) cl_RL_228 (ct_X11_restore l hl G 0 zs_0 M) dd_L_law_2249 zs_0 (by decide) (by show w + 0 ≤ 2100; omega) (Nat.le_of_ble_eq_true rfl) rfl rfl (fun r95 M130 => ?_)
          refine ev_aload_n dd_L_law_2252 2 rfl ?_
          refine ev_callVI (As := []) cl_RL_232 (ct_X12_restore l hl G 79 zs_79 M130) dd_L_law_2253 zs_79 (by decide) (by show w + 0 ≤ 2100; omega) (Nat.le_of_ble_eq_true rfl) rfl rfl (fun r96 M131 => ?_)
          refine ev_icmp_eq 2261 dd_L_law_2256 (by decide) ?_ ?_
          · refine ev_u (u' := w + 4) (by show w + 0 ≤ w + 4; omega) ?_
            exact hk1 _
          · refine ev_lv (lv' := [(0, .ref G.2.2.2.2.2.1), (1, .ref (G.2.1 + 0)), (2, .ref (G.2.1 + 79)), (3, .ref (G.2.1 + 124))]) [0, 1, 2, 3] rfl ?_
            refine ev_iconst (v := 0) dd_L_law_2259 (by decide) ?_
            exact ev_zret dd_L_law_2260 rfl (by show w + 0 ≤ 2100; omega) rfl
        refine ev_tabOut (tgt := 2261) dd_L_law_40 (by have e0 := i32ne hs1 (n := 0) (by decide); have e1 := i32ne hs2 (n := 1) (by decide); have e2 := i32ne hs3 (n := 2) (by decide); have e3 := i32ne hs4 (n := 3) (by decide); have e4 := i32ne hs5 (n := 4) (by decide); have e5 := i32ne hs6 (n := 5) (by decide); have e6 := i32ne hs7 (n := 6) (by decide); have e7 := i32ne hs8 (n := 7) (by decide); have e8 := i32ne hs9 (n := 8) (by decide); have e9 := i32ne hs10 (n := 9) (by decide); have e10 := i32ne hs11 (n := 10) (by decide); have e11 := i32ne hs12 (n := 11) (by decide); have e12 := i32ne hs13 (n := 12) (by decide); have e13 := i32ne hs14 (n := 13) (by decide); have e14 := i32ne hs15 (n := 14) (by decide); have e15 := i32ne hs16 (n := 15) (by decide); have e16 := i32ne hs17 (n := 16) (by decide); have e17 := i32ne hs18 (n := 17) (by decide); have e18 := i32ne hs19 (n := 18) (by decide); have e19 := i32ne hs20 (n := 19) (by decide); have e20 := i32ne hs21 (n := 20) (by decide); have e21 := i32ne hs22 (n := 21) (by decide); have e22 := i32ne hs23 (n := 22) (by decide); have e23 := i32ne hs24 (n := 23) (by decide); have e24 := i32ne hs25 (n := 24) (by decide); have e25 := i32ne hs26 (n := 25) (by decide); have e26 := i32ne hs27 (n := 26) (by decide); have e27 := i32ne hs28 (n := 27) (by decide); have e28 := i32ne hs29 (n := 28) (by decide); have e29 := i32ne hs30 (n := 29) (by decide); have e30 := i32ne hs31 (n := 30) (by decide); have e31 := i32ne hs32 (n := 31) (by decide); have e32 := i32ne hs33 (n := 32) (by decide); have e33 := i32ne hs34 (n := 33) (by decide); have e34 := i32ne hs35 (n := 34) (by decide); have e35 := i32ne hs36 (n := 35) (by decide); omega) (by decide) ?_
        refine ev_u (u' := w + 4) (by show w + 0 ≤ w + 4; omega) ?_
        exact hk1 _
