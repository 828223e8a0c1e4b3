/-! rows for the constructors, by program (mknew.py) -/
abbrev Y_X0_init : zY := (yX0_init, cX0_init, 1, none, 0, [])
abbrev Y_X10_init : zY := (yX10_init, cX10_init, 2, none, 0, [])
abbrev Y_X11_init : zY := (yX11_init, cX11_init, 1, none, 0, [])
abbrev Y_X12_init : zY := (yX12_init, cX12_init, 1, none, 0, [])
abbrev Y_X1_init : zY := (yX1_init, cX1_init, 3, none, 0, [])
abbrev Y_X2_init : zY := (yX2_init, cX2_init, 2, none, 0, [])
abbrev Y_X3_init : zY := (yX3_init, cX3_init, 1, none, 0, [])
abbrev Y_X4_init : zY := (yX4_init, cX4_init, 3, none, 0, [])
abbrev Y_X5_init : zY := (yX5_init, cX5_init, 4, none, 0, [])
abbrev Y_X6_init : zY := (yX6_init, cX6_init, 1, none, 0, [])
abbrev Y_X7_init : zY := (yX7_init, cX7_init, 3, none, 0, [])
abbrev Y_X8_init : zY := (yX8_init, cX8_init, 1, none, 0, [])
abbrev Y_X9_init : zY := (yX9_init, cX9_init, 1, none, 0, [])
theorem gf_RX11_74 : zFd RX11 74 11 10 (.object "BarterIsles$Permits") := ⟨RX11, TX11, 16, tyX11, rfl, inX_11, by decide, (zmem 510 (by decide +kernel) (by decide +kernel)), tyX11_ok, nmX11, by decide +kernel, by decide, by decide +kernel, by decide⟩
theorem no_RX11_1 : Cond.methodLink RX11 1 Lib.objectInit ∈ zT := (zmem 134 (by decide +kernel) (by decide +kernel))
theorem no_i : Cond.instanceMethod Lib.objectInit ∈ zT := (zmem 135 (by decide +kernel) (by decide +kernel))
theorem no_c : Cond.code Lib.objectInit ⟨#[0xb1]⟩ 1 none ∈ zT := (zmem 136 (by decide +kernel) (by decide +kernel))
theorem nl_RX11_7 : Cond.classLink RX11 7 RX8 ∈ zT := (zmem 137 (by decide +kernel) (by decide +kernel))
theorem ni_RX8 : Cond.instantiable RX8 9 ∈ zT := (zmem 138 (by decide +kernel) (by decide +kernel))
theorem nn_RX8 : Cond.initialized RX8 ∈ zT := (zmem 103 (by decide +kernel) (by decide +kernel))
theorem no_RX8_3 : Cond.methodLink RX8 3 Lib.objectInit ∈ zT := (zmem 142 (by decide +kernel) (by decide +kernel))
theorem na_byte : Cond.arrayClass .byte ∈ zT := (zmem 178 (by decide +kernel) (by decide +kernel))
theorem nm_X8_init : zNm Y_X8_init := ⟨⟨by decide +kernel, by decide +kernel⟩, by decide, (zmem 141 (by decide +kernel) (by decide +kernel)), (zmem 103 (by decide +kernel) (by decide +kernel))⟩
theorem nx_X8_init : Cond.instanceMethod yX8_init ∈ zT := (zmem 140 (by decide +kernel) (by decide +kernel))
theorem nl_RX11_16 : Cond.classLink RX11 16 RX6 ∈ zT := (zmem 179 (by decide +kernel) (by decide +kernel))
theorem ni_RX6 : Cond.instantiable RX6 14 ∈ zT := (zmem 180 (by decide +kernel) (by decide +kernel))
theorem nn_RX6 : Cond.initialized RX6 ∈ zT := (zmem 104 (by decide +kernel) (by decide +kernel))
theorem no_RX6_3 : Cond.methodLink RX6 3 Lib.objectInit ∈ zT := (zmem 184 (by decide +kernel) (by decide +kernel))
theorem nl_RX6_25 : Cond.classLink RX6 25 RX9 ∈ zT := (zmem 185 (by decide +kernel) (by decide +kernel))
theorem ni_RX9 : Cond.instantiable RX9 6 ∈ zT := (zmem 186 (by decide +kernel) (by decide +kernel))
theorem nn_RX9 : Cond.initialized RX9 ∈ zT := (zmem 105 (by decide +kernel) (by decide +kernel))
theorem no_RX9_3 : Cond.methodLink RX9 3 Lib.objectInit ∈ zT := (zmem 190 (by decide +kernel) (by decide +kernel))
theorem na_int : Cond.arrayClass .int ∈ zT := (zmem 214 (by decide +kernel) (by decide +kernel))
theorem nm_X9_init : zNm Y_X9_init := ⟨⟨by decide +kernel, by decide +kernel⟩, by decide, (zmem 189 (by decide +kernel) (by decide +kernel)), (zmem 105 (by decide +kernel) (by decide +kernel))⟩
theorem nx_X9_init : Cond.instanceMethod yX9_init ∈ zT := (zmem 188 (by decide +kernel) (by decide +kernel))
theorem nl_RX6_32 : Cond.classLink RX6 32 RX0 ∈ zT := (zmem 215 (by decide +kernel) (by decide +kernel))
theorem ni_RX0 : Cond.instantiable RX0 5 ∈ zT := (zmem 216 (by decide +kernel) (by decide +kernel))
theorem nn_RX0 : Cond.initialized RX0 ∈ zT := (zmem 106 (by decide +kernel) (by decide +kernel))
theorem no_RX0_3 : Cond.methodLink RX0 3 Lib.objectInit ∈ zT := (zmem 220 (by decide +kernel) (by decide +kernel))
theorem nm_X0_init : zNm Y_X0_init := ⟨⟨by decide +kernel, by decide +kernel⟩, by decide, (zmem 219 (by decide +kernel) (by decide +kernel)), (zmem 106 (by decide +kernel) (by decide +kernel))⟩
theorem nx_X0_init : Cond.instanceMethod yX0_init ∈ zT := (zmem 218 (by decide +kernel) (by decide +kernel))
theorem nm_X6_init : zNm Y_X6_init := ⟨⟨by decide +kernel, by decide +kernel⟩, by decide, (zmem 183 (by decide +kernel) (by decide +kernel)), (zmem 104 (by decide +kernel) (by decide +kernel))⟩
theorem nx_X6_init : Cond.instanceMethod yX6_init ∈ zT := (zmem 182 (by decide +kernel) (by decide +kernel))
theorem nl_RX11_26 : Cond.classLink RX11 26 RX7 ∈ zT := (zmem 316 (by decide +kernel) (by decide +kernel))
theorem ni_RX7 : Cond.instantiable RX7 2 ∈ zT := (zmem 317 (by decide +kernel) (by decide +kernel))
theorem nn_RX7 : Cond.initialized RX7 ∈ zT := (zmem 107 (by decide +kernel) (by decide +kernel))
theorem no_RX7_3 : Cond.methodLink RX7 3 Lib.objectInit ∈ zT := (zmem 321 (by decide +kernel) (by decide +kernel))
theorem nm_X7_init : zNm Y_X7_init := ⟨⟨by decide +kernel, by decide +kernel⟩, by decide, (zmem 320 (by decide +kernel) (by decide +kernel)), (zmem 107 (by decide +kernel) (by decide +kernel))⟩
theorem nx_X7_init : Cond.instanceMethod yX7_init ∈ zT := (zmem 319 (by decide +kernel) (by decide +kernel))
theorem nk_RX11_28 : Cond.methodLink RX11 28 yX7_init ∈ zT := (zmem 318 (by decide +kernel) (by decide +kernel))
theorem nl_RX11_35 : Cond.classLink RX11 35 RX10 ∈ zT := (zmem 329 (by decide +kernel) (by decide +kernel))
theorem ni_RX10 : Cond.instantiable RX10 4 ∈ zT := (zmem 330 (by decide +kernel) (by decide +kernel))
theorem nn_RX10 : Cond.initialized RX10 ∈ zT := (zmem 108 (by decide +kernel) (by decide +kernel))
theorem no_RX10_3 : Cond.methodLink RX10 3 Lib.objectInit ∈ zT := (zmem 334 (by decide +kernel) (by decide +kernel))
theorem nm_X10_init : zNm Y_X10_init := ⟨⟨by decide +kernel, by decide +kernel⟩, by decide, (zmem 333 (by decide +kernel) (by decide +kernel)), (zmem 108 (by decide +kernel) (by decide +kernel))⟩
theorem nx_X10_init : Cond.instanceMethod yX10_init ∈ zT := (zmem 332 (by decide +kernel) (by decide +kernel))
theorem nk_RX11_37 : Cond.methodLink RX11 37 yX10_init ∈ zT := (zmem 331 (by decide +kernel) (by decide +kernel))
theorem nl_RX11_50 : Cond.classLink RX11 50 RX3 ∈ zT := (zmem 355 (by decide +kernel) (by decide +kernel))
theorem ni_RX3 : Cond.instantiable RX3 8 ∈ zT := (zmem 356 (by decide +kernel) (by decide +kernel))
theorem nn_RX3 : Cond.initialized RX3 ∈ zT := (zmem 109 (by decide +kernel) (by decide +kernel))
theorem no_RX3_3 : Cond.methodLink RX3 3 Lib.objectInit ∈ zT := (zmem 360 (by decide +kernel) (by decide +kernel))
theorem nm_X3_init : zNm Y_X3_init := ⟨⟨by decide +kernel, by decide +kernel⟩, by decide, (zmem 359 (by decide +kernel) (by decide +kernel)), (zmem 109 (by decide +kernel) (by decide +kernel))⟩
theorem nx_X3_init : Cond.instanceMethod yX3_init ∈ zT := (zmem 358 (by decide +kernel) (by decide +kernel))
theorem nl_RX11_60 : Cond.classLink RX11 60 RX1 ∈ zT := (zmem 388 (by decide +kernel) (by decide +kernel))
theorem ni_RX1 : Cond.instantiable RX1 6 ∈ zT := (zmem 389 (by decide +kernel) (by decide +kernel))
theorem nn_RX1 : Cond.initialized RX1 ∈ zT := (zmem 110 (by decide +kernel) (by decide +kernel))
theorem no_RX1_3 : Cond.methodLink RX1 3 Lib.objectInit ∈ zT := (zmem 393 (by decide +kernel) (by decide +kernel))
theorem nm_X1_init : zNm Y_X1_init := ⟨⟨by decide +kernel, by decide +kernel⟩, by decide, (zmem 392 (by decide +kernel) (by decide +kernel)), (zmem 110 (by decide +kernel) (by decide +kernel))⟩
theorem nx_X1_init : Cond.instanceMethod yX1_init ∈ zT := (zmem 391 (by decide +kernel) (by decide +kernel))
theorem nk_RX11_62 : Cond.methodLink RX11 62 yX1_init ∈ zT := (zmem 390 (by decide +kernel) (by decide +kernel))
theorem nl_RX11_69 : Cond.classLink RX11 69 RX2 ∈ zT := (zmem 415 (by decide +kernel) (by decide +kernel))
theorem ni_RX2 : Cond.instantiable RX2 3 ∈ zT := (zmem 416 (by decide +kernel) (by decide +kernel))
theorem nn_RX2 : Cond.initialized RX2 ∈ zT := (zmem 111 (by decide +kernel) (by decide +kernel))
theorem no_RX2_3 : Cond.methodLink RX2 3 Lib.objectInit ∈ zT := (zmem 420 (by decide +kernel) (by decide +kernel))
theorem nm_X2_init : zNm Y_X2_init := ⟨⟨by decide +kernel, by decide +kernel⟩, by decide, (zmem 419 (by decide +kernel) (by decide +kernel)), (zmem 111 (by decide +kernel) (by decide +kernel))⟩
theorem nx_X2_init : Cond.instanceMethod yX2_init ∈ zT := (zmem 418 (by decide +kernel) (by decide +kernel))
theorem nk_RX11_71 : Cond.methodLink RX11 71 yX2_init ∈ zT := (zmem 417 (by decide +kernel) (by decide +kernel))
theorem nl_RX11_78 : Cond.classLink RX11 78 RX4 ∈ zT := (zmem 431 (by decide +kernel) (by decide +kernel))
theorem ni_RX4 : Cond.instantiable RX4 7 ∈ zT := (zmem 432 (by decide +kernel) (by decide +kernel))
theorem nn_RX4 : Cond.initialized RX4 ∈ zT := (zmem 112 (by decide +kernel) (by decide +kernel))
theorem no_RX4_3 : Cond.methodLink RX4 3 Lib.objectInit ∈ zT := (zmem 436 (by decide +kernel) (by decide +kernel))
theorem nm_X4_init : zNm Y_X4_init := ⟨⟨by decide +kernel, by decide +kernel⟩, by decide, (zmem 435 (by decide +kernel) (by decide +kernel)), (zmem 112 (by decide +kernel) (by decide +kernel))⟩
theorem nx_X4_init : Cond.instanceMethod yX4_init ∈ zT := (zmem 434 (by decide +kernel) (by decide +kernel))
theorem nk_RX11_80 : Cond.methodLink RX11 80 yX4_init ∈ zT := (zmem 433 (by decide +kernel) (by decide +kernel))
theorem nl_RX11_87 : Cond.classLink RX11 87 RX5 ∈ zT := (zmem 459 (by decide +kernel) (by decide +kernel))
theorem ni_RX5 : Cond.instantiable RX5 11 ∈ zT := (zmem 460 (by decide +kernel) (by decide +kernel))
theorem nn_RX5 : Cond.initialized RX5 ∈ zT := (zmem 113 (by decide +kernel) (by decide +kernel))
theorem no_RX5_3 : Cond.methodLink RX5 3 Lib.objectInit ∈ zT := (zmem 464 (by decide +kernel) (by decide +kernel))
theorem nm_X5_init : zNm Y_X5_init := ⟨⟨by decide +kernel, by decide +kernel⟩, by decide, (zmem 463 (by decide +kernel) (by decide +kernel)), (zmem 113 (by decide +kernel) (by decide +kernel))⟩
theorem nx_X5_init : Cond.instanceMethod yX5_init ∈ zT := (zmem 462 (by decide +kernel) (by decide +kernel))
theorem nk_RX11_89 : Cond.methodLink RX11 89 yX5_init ∈ zT := (zmem 461 (by decide +kernel) (by decide +kernel))
theorem no_RX12_1 : Cond.methodLink RX12 1 Lib.objectInit ∈ zT := (zmem 1538 (by decide +kernel) (by decide +kernel))
theorem na_boolean : Cond.arrayClass .boolean ∈ zT := (zmem 1777 (by decide +kernel) (by decide +kernel))
theorem df_0 (b : Nat) : ∀ j, j < 5 → defaultValue (tyX0 j) = zfn b (fun _ => 0) (fun _ => none) 0 j
  | 0, _ => rfl
  | 1, _ => rfl
  | 2, _ => rfl
  | 3, _ => rfl
  | 4, _ => rfl
  | j + 5, h => absurd h (by omega)
theorem df_1 (b : Nat) : ∀ j, j < 6 → defaultValue (tyX1 j) = zfn b (fun _ => 0) (fun _ => none) 1 j
  | 0, _ => rfl
  | 1, _ => rfl
  | 2, _ => rfl
  | 3, _ => rfl
  | 4, _ => rfl
  | 5, _ => rfl
  | j + 6, h => absurd h (by omega)
theorem df_2 (b : Nat) : ∀ j, j < 3 → defaultValue (tyX2 j) = zfn b (fun _ => 0) (fun _ => none) 2 j
  | 0, _ => rfl
  | 1, _ => rfl
  | 2, _ => rfl
  | j + 3, h => absurd h (by omega)
theorem df_3 (b : Nat) : ∀ j, j < 8 → defaultValue (tyX3 j) = zfn b (fun _ => 0) (fun _ => none) 3 j
  | 0, _ => rfl
  | 1, _ => rfl
  | 2, _ => rfl
  | 3, _ => rfl
  | 4, _ => rfl
  | 5, _ => rfl
  | 6, _ => rfl
  | 7, _ => rfl
  | j + 8, h => absurd h (by omega)
theorem df_4 (b : Nat) : ∀ j, j < 7 → defaultValue (tyX4 j) = zfn b (fun _ => 0) (fun _ => none) 4 j
  | 0, _ => rfl
  | 1, _ => rfl
  | 2, _ => rfl
  | 3, _ => rfl
  | 4, _ => rfl
  | 5, _ => rfl
  | 6, _ => rfl
  | j + 7, h => absurd h (by omega)
theorem df_5 (b : Nat) : ∀ j, j < 11 → defaultValue (tyX5 j) = zfn b (fun _ => 0) (fun _ => none) 5 j
  | 0, _ => rfl
  | 1, _ => rfl
  | 2, _ => rfl
  | 3, _ => rfl
  | 4, _ => rfl
  | 5, _ => rfl
  | 6, _ => rfl
  | 7, _ => rfl
  | 8, _ => rfl
  | 9, _ => rfl
  | 10, _ => rfl
  | j + 11, h => absurd h (by omega)
theorem df_6 (b : Nat) : ∀ j, j < 14 → defaultValue (tyX6 j) = zfn b (fun _ => 0) (fun _ => none) 6 j
  | 0, _ => rfl
  | 1, _ => rfl
  | 2, _ => rfl
  | 3, _ => rfl
  | 4, _ => rfl
  | 5, _ => rfl
  | 6, _ => rfl
  | 7, _ => rfl
  | 8, _ => rfl
  | 9, _ => rfl
  | 10, _ => rfl
  | 11, _ => rfl
  | 12, _ => rfl
  | 13, _ => rfl
  | j + 14, h => absurd h (by omega)
theorem df_7 (b : Nat) : ∀ j, j < 2 → defaultValue (tyX7 j) = zfn b (fun _ => 0) (fun _ => none) 7 j
  | 0, _ => rfl
  | 1, _ => rfl
  | j + 2, h => absurd h (by omega)
theorem df_8 (b : Nat) : ∀ j, j < 9 → defaultValue (tyX8 j) = zfn b (fun _ => 0) (fun _ => none) 8 j
  | 0, _ => rfl
  | 1, _ => rfl
  | 2, _ => rfl
  | 3, _ => rfl
  | 4, _ => rfl
  | 5, _ => rfl
  | 6, _ => rfl
  | 7, _ => rfl
  | 8, _ => rfl
  | j + 9, h => absurd h (by omega)
theorem df_9 (b : Nat) : ∀ j, j < 6 → defaultValue (tyX9 j) = zfn b (fun _ => 0) (fun _ => none) 9 j
  | 0, _ => rfl
  | 1, _ => rfl
  | 2, _ => rfl
  | 3, _ => rfl
  | 4, _ => rfl
  | 5, _ => rfl
  | j + 6, h => absurd h (by omega)
theorem df_10 (b : Nat) : ∀ j, j < 4 → defaultValue (tyX10 j) = zfn b (fun _ => 0) (fun _ => none) 10 j
  | 0, _ => rfl
  | 1, _ => rfl
  | 2, _ => rfl
  | 3, _ => rfl
  | j + 4, h => absurd h (by omega)
theorem df_11 (b : Nat) : ∀ j, j < 16 → defaultValue (tyX11 j) = zfn b (fun _ => 0) (fun _ => none) 11 j
  | 0, _ => rfl
  | 1, _ => rfl
  | 2, _ => rfl
  | 3, _ => rfl
  | 4, _ => rfl
  | 5, _ => rfl
  | 6, _ => rfl
  | 7, _ => rfl
  | 8, _ => rfl
  | 9, _ => rfl
  | 10, _ => rfl
  | 11, _ => rfl
  | 12, _ => rfl
  | 13, _ => rfl
  | 14, _ => rfl
  | 15, _ => rfl
  | j + 16, h => absurd h (by omega)
theorem df_12 (b : Nat) : ∀ j, j < 79 → defaultValue (tyX12 j) = zfn b (fun _ => 0) (fun _ => none) 12 j
  | 0, _ => rfl
  | 1, _ => rfl
  | 2, _ => rfl
  | 3, _ => rfl
  | 4, _ => rfl
  | 5, _ => rfl
  | 6, _ => rfl
  | 7, _ => rfl
  | 8, _ => rfl
  | 9, _ => rfl
  | 10, _ => rfl
  | 11, _ => rfl
  | 12, _ => rfl
  | 13, _ => rfl
  | 14, _ => rfl
  | 15, _ => rfl
  | 16, _ => rfl
  | 17, _ => rfl
  | 18, _ => rfl
  | 19, _ => rfl
  | 20, _ => rfl
  | 21, _ => rfl
  | 22, _ => rfl
  | 23, _ => rfl
  | 24, _ => rfl
  | 25, _ => rfl
  | 26, _ => rfl
  | 27, _ => rfl
  | 28, _ => rfl
  | 29, _ => rfl
  | 30, _ => rfl
  | 31, _ => rfl
  | 32, _ => rfl
  | 33, _ => rfl
  | 34, _ => rfl
  | 35, _ => rfl
  | 36, _ => rfl
  | 37, _ => rfl
  | 38, _ => rfl
  | 39, _ => rfl
  | 40, _ => rfl
  | 41, _ => rfl
  | 42, _ => rfl
  | 43, _ => rfl
  | 44, _ => rfl
  | 45, _ => rfl
  | 46, _ => rfl
  | 47, _ => rfl
  | 48, _ => rfl
  | 49, _ => rfl
  | 50, _ => rfl
  | 51, _ => rfl
  | 52, _ => rfl
  | 53, _ => rfl
  | 54, _ => rfl
  | 55, _ => rfl
  | 56, _ => rfl
  | 57, _ => rfl
  | 58, _ => rfl
  | 59, _ => rfl
  | 60, _ => rfl
  | 61, _ => rfl
  | 62, _ => rfl
  | 63, _ => rfl
  | 64, _ => rfl
  | 65, _ => rfl
  | 66, _ => rfl
  | 67, _ => rfl
  | 68, _ => rfl
  | 69, _ => rfl
  | 70, _ => rfl
  | 71, _ => rfl
  | 72, _ => rfl
  | 73, _ => rfl
  | 74, _ => rfl
  | 75, _ => rfl
  | 76, _ => rfl
  | 77, _ => rfl
  | 78, _ => rfl
  | j + 79, h => absurd h (by omega)
theorem dd_X11_init_0 : decode Y_X11_init.2.1 0 = .ok (.aload_n 0, 1) := by decide +kernel
theorem dd_X11_init_1 : decode Y_X11_init.2.1 1 = .ok (.invokespecial 1, 3) := by decide +kernel
theorem dd_X11_init_4 : decode Y_X11_init.2.1 4 = .ok (.aload_n 0, 1) := by decide +kernel
theorem dd_X11_init_5 : decode Y_X11_init.2.1 5 = .ok (.new 7, 3) := by decide +kernel
theorem dd_X11_init_8 : decode Y_X11_init.2.1 8 = .ok (.dup, 1) := by decide +kernel
theorem dd_X11_init_9 : decode Y_X11_init.2.1 9 = .ok (.invokespecial 9, 3) := by decide +kernel
theorem dd_X8_init_0 : decode Y_X8_init.2.1 0 = .ok (.aload_n 0, 1) := by decide +kernel
theorem dd_X8_init_1 : decode Y_X8_init.2.1 1 = .ok (.invokespecial 3, 3) := by decide +kernel
theorem dd_X8_init_4 : decode Y_X8_init.2.1 4 = .ok (.aload_n 0, 1) := by decide +kernel
theorem dd_X8_init_5 : decode Y_X8_init.2.1 5 = .ok (.sipush 700, 3) := by decide +kernel
theorem dd_X8_init_8 : decode Y_X8_init.2.1 8 = .ok (.newarray .byte, 2) := by decide +kernel
theorem dd_X8_init_10 : decode Y_X8_init.2.1 10 = .ok (.putfield 9, 3) := by decide +kernel
theorem dd_X8_init_13 : decode Y_X8_init.2.1 13 = .ok (.aload_n 0, 1) := by decide +kernel
theorem dd_X8_init_14 : decode Y_X8_init.2.1 14 = .ok (.iconst 0, 1) := by decide +kernel
theorem dd_X8_init_15 : decode Y_X8_init.2.1 15 = .ok (.putfield 15, 3) := by decide +kernel
theorem dd_X8_init_18 : decode Y_X8_init.2.1 18 = .ok (.aload_n 0, 1) := by decide +kernel
theorem dd_X8_init_19 : decode Y_X8_init.2.1 19 = .ok (.iconst 0, 1) := by decide +kernel
theorem dd_X8_init_20 : decode Y_X8_init.2.1 20 = .ok (.putfield 19, 3) := by decide +kernel
theorem dd_X8_init_23 : decode Y_X8_init.2.1 23 = .ok (.aload_n 0, 1) := by decide +kernel
theorem dd_X8_init_24 : decode Y_X8_init.2.1 24 = .ok (.sipush 256, 3) := by decide +kernel
theorem dd_X8_init_27 : decode Y_X8_init.2.1 27 = .ok (.putfield 22, 3) := by decide +kernel
theorem dd_X8_init_30 : decode Y_X8_init.2.1 30 = .ok (.aload_n 0, 1) := by decide +kernel
theorem dd_X8_init_31 : decode Y_X8_init.2.1 31 = .ok (.iconst 0, 1) := by decide +kernel
theorem dd_X8_init_32 : decode Y_X8_init.2.1 32 = .ok (.putfield 25, 3) := by decide +kernel
theorem dd_X8_init_35 : decode Y_X8_init.2.1 35 = .ok (.aload_n 0, 1) := by decide +kernel
theorem dd_X8_init_36 : decode Y_X8_init.2.1 36 = .ok (.iconst 0, 1) := by decide +kernel
theorem dd_X8_init_37 : decode Y_X8_init.2.1 37 = .ok (.putfield 28, 3) := by decide +kernel
theorem dd_X8_init_40 : decode Y_X8_init.2.1 40 = .ok (.aload_n 0, 1) := by decide +kernel
theorem dd_X8_init_41 : decode Y_X8_init.2.1 41 = .ok (.iconst 0, 1) := by decide +kernel
theorem dd_X8_init_42 : decode Y_X8_init.2.1 42 = .ok (.putfield 31, 3) := by decide +kernel
theorem dd_X8_init_45 : decode Y_X8_init.2.1 45 = .ok (.aload_n 0, 1) := by decide +kernel
theorem dd_X8_init_46 : decode Y_X8_init.2.1 46 = .ok (.iconst 0, 1) := by decide +kernel
theorem dd_X8_init_47 : decode Y_X8_init.2.1 47 = .ok (.putfield 34, 3) := by decide +kernel
theorem dd_X8_init_50 : decode Y_X8_init.2.1 50 = .ok (.aload_n 0, 1) := by decide +kernel
theorem dd_X8_init_51 : decode Y_X8_init.2.1 51 = .ok (.iconst (-1), 1) := by decide +kernel
theorem dd_X8_init_52 : decode Y_X8_init.2.1 52 = .ok (.putfield 37, 3) := by decide +kernel
theorem dd_X8_init_55 : decode Y_X8_init.2.1 55 = .ok (.return_, 1) := by decide +kernel
theorem dd_X11_init_12 : decode Y_X11_init.2.1 12 = .ok (.putfield 10, 3) := by decide +kernel
theorem dd_X11_init_15 : decode Y_X11_init.2.1 15 = .ok (.aload_n 0, 1) := by decide +kernel
theorem dd_X11_init_16 : decode Y_X11_init.2.1 16 = .ok (.new 16, 3) := by decide +kernel
theorem dd_X11_init_19 : decode Y_X11_init.2.1 19 = .ok (.dup, 1) := by decide +kernel
theorem dd_X11_init_20 : decode Y_X11_init.2.1 20 = .ok (.invokespecial 18, 3) := by decide +kernel
theorem dd_X6_init_0 : decode Y_X6_init.2.1 0 = .ok (.aload_n 0, 1) := by decide +kernel
theorem dd_X6_init_1 : decode Y_X6_init.2.1 1 = .ok (.invokespecial 3, 3) := by decide +kernel
theorem dd_X6_init_4 : decode Y_X6_init.2.1 4 = .ok (.aload_n 0, 1) := by decide +kernel
theorem dd_X6_init_5 : decode Y_X6_init.2.1 5 = .ok (.iconst 0, 1) := by decide +kernel
theorem dd_X6_init_6 : decode Y_X6_init.2.1 6 = .ok (.putfield 9, 3) := by decide +kernel
theorem dd_X6_init_9 : decode Y_X6_init.2.1 9 = .ok (.aload_n 0, 1) := by decide +kernel
theorem dd_X6_init_10 : decode Y_X6_init.2.1 10 = .ok (.iconst 0, 1) := by decide +kernel
theorem dd_X6_init_11 : decode Y_X6_init.2.1 11 = .ok (.putfield 15, 3) := by decide +kernel
theorem dd_X6_init_14 : decode Y_X6_init.2.1 14 = .ok (.aload_n 0, 1) := by decide +kernel
theorem dd_X6_init_15 : decode Y_X6_init.2.1 15 = .ok (.iconst 3, 1) := by decide +kernel
theorem dd_X6_init_16 : decode Y_X6_init.2.1 16 = .ok (.putfield 18, 3) := by decide +kernel
theorem dd_X6_init_19 : decode Y_X6_init.2.1 19 = .ok (.aload_n 0, 1) := by decide +kernel
theorem dd_X6_init_20 : decode Y_X6_init.2.1 20 = .ok (.iconst 0, 1) := by decide +kernel
theorem dd_X6_init_21 : decode Y_X6_init.2.1 21 = .ok (.putfield 21, 3) := by decide +kernel
theorem dd_X6_init_24 : decode Y_X6_init.2.1 24 = .ok (.aload_n 0, 1) := by decide +kernel
theorem dd_X6_init_25 : decode Y_X6_init.2.1 25 = .ok (.new 25, 3) := by decide +kernel
theorem dd_X6_init_28 : decode Y_X6_init.2.1 28 = .ok (.dup, 1) := by decide +kernel
theorem dd_X6_init_29 : decode Y_X6_init.2.1 29 = .ok (.invokespecial 27, 3) := by decide +kernel
theorem dd_X9_init_0 : decode Y_X9_init.2.1 0 = .ok (.aload_n 0, 1) := by decide +kernel
theorem dd_X9_init_1 : decode Y_X9_init.2.1 1 = .ok (.invokespecial 3, 3) := by decide +kernel
theorem dd_X9_init_4 : decode Y_X9_init.2.1 4 = .ok (.aload_n 0, 1) := by decide +kernel
theorem dd_X9_init_5 : decode Y_X9_init.2.1 5 = .ok (.bipush 72, 2) := by decide +kernel
theorem dd_X9_init_7 : decode Y_X9_init.2.1 7 = .ok (.newarray .byte, 2) := by decide +kernel
theorem dd_X9_init_9 : decode Y_X9_init.2.1 9 = .ok (.putfield 9, 3) := by decide +kernel
theorem dd_X9_init_12 : decode Y_X9_init.2.1 12 = .ok (.aload_n 0, 1) := by decide +kernel
theorem dd_X9_init_13 : decode Y_X9_init.2.1 13 = .ok (.bipush 8, 2) := by decide +kernel
theorem dd_X9_init_15 : decode Y_X9_init.2.1 15 = .ok (.newarray .int, 2) := by decide +kernel
theorem dd_X9_init_17 : decode Y_X9_init.2.1 17 = .ok (.putfield 15, 3) := by decide +kernel
theorem dd_X9_init_20 : decode Y_X9_init.2.1 20 = .ok (.aload_n 0, 1) := by decide +kernel
theorem dd_X9_init_21 : decode Y_X9_init.2.1 21 = .ok (.iconst 5, 1) := by decide +kernel
theorem dd_X9_init_22 : decode Y_X9_init.2.1 22 = .ok (.newarray .int, 2) := by decide +kernel
theorem dd_X9_init_24 : decode Y_X9_init.2.1 24 = .ok (.putfield 19, 3) := by decide +kernel
theorem dd_X9_init_27 : decode Y_X9_init.2.1 27 = .ok (.aload_n 0, 1) := by decide +kernel
theorem dd_X9_init_28 : decode Y_X9_init.2.1 28 = .ok (.iconst 5, 1) := by decide +kernel
theorem dd_X9_init_29 : decode Y_X9_init.2.1 29 = .ok (.newarray .int, 2) := by decide +kernel
theorem dd_X9_init_31 : decode Y_X9_init.2.1 31 = .ok (.putfield 22, 3) := by decide +kernel
theorem dd_X9_init_34 : decode Y_X9_init.2.1 34 = .ok (.aload_n 0, 1) := by decide +kernel
theorem dd_X9_init_35 : decode Y_X9_init.2.1 35 = .ok (.iconst 0, 1) := by decide +kernel
theorem dd_X9_init_36 : decode Y_X9_init.2.1 36 = .ok (.putfield 25, 3) := by decide +kernel
theorem dd_X9_init_39 : decode Y_X9_init.2.1 39 = .ok (.aload_n 0, 1) := by decide +kernel
theorem dd_X9_init_40 : decode Y_X9_init.2.1 40 = .ok (.iconst 0, 1) := by decide +kernel
theorem dd_X9_init_41 : decode Y_X9_init.2.1 41 = .ok (.putfield 29, 3) := by decide +kernel
theorem dd_X9_init_44 : decode Y_X9_init.2.1 44 = .ok (.return_, 1) := by decide +kernel
theorem dd_X6_init_32 : decode Y_X6_init.2.1 32 = .ok (.putfield 28, 3) := by decide +kernel
theorem dd_X6_init_35 : decode Y_X6_init.2.1 35 = .ok (.aload_n 0, 1) := by decide +kernel
theorem dd_X6_init_36 : decode Y_X6_init.2.1 36 = .ok (.new 32, 3) := by decide +kernel
theorem dd_X6_init_39 : decode Y_X6_init.2.1 39 = .ok (.dup, 1) := by decide +kernel
theorem dd_X6_init_40 : decode Y_X6_init.2.1 40 = .ok (.invokespecial 34, 3) := by decide +kernel
theorem dd_X0_init_0 : decode Y_X0_init.2.1 0 = .ok (.aload_n 0, 1) := by decide +kernel
theorem dd_X0_init_1 : decode Y_X0_init.2.1 1 = .ok (.invokespecial 3, 3) := by decide +kernel
theorem dd_X0_init_4 : decode Y_X0_init.2.1 4 = .ok (.aload_n 0, 1) := by decide +kernel
theorem dd_X0_init_5 : decode Y_X0_init.2.1 5 = .ok (.bipush 7, 2) := by decide +kernel
theorem dd_X0_init_7 : decode Y_X0_init.2.1 7 = .ok (.newarray .int, 2) := by decide +kernel
theorem dd_X0_init_9 : decode Y_X0_init.2.1 9 = .ok (.putfield 11, 3) := by decide +kernel
theorem dd_X0_init_12 : decode Y_X0_init.2.1 12 = .ok (.aload_n 0, 1) := by decide +kernel
theorem dd_X0_init_13 : decode Y_X0_init.2.1 13 = .ok (.sipush 700, 3) := by decide +kernel
theorem dd_X0_init_16 : decode Y_X0_init.2.1 16 = .ok (.newarray .int, 2) := by decide +kernel
theorem dd_X0_init_18 : decode Y_X0_init.2.1 18 = .ok (.putfield 15, 3) := by decide +kernel
theorem dd_X0_init_21 : decode Y_X0_init.2.1 21 = .ok (.aload_n 0, 1) := by decide +kernel
theorem dd_X0_init_22 : decode Y_X0_init.2.1 22 = .ok (.bipush 40, 2) := by decide +kernel
theorem dd_X0_init_24 : decode Y_X0_init.2.1 24 = .ok (.newarray .int, 2) := by decide +kernel
theorem dd_X0_init_26 : decode Y_X0_init.2.1 26 = .ok (.putfield 18, 3) := by decide +kernel
theorem dd_X0_init_29 : decode Y_X0_init.2.1 29 = .ok (.aload_n 0, 1) := by decide +kernel
theorem dd_X0_init_30 : decode Y_X0_init.2.1 30 = .ok (.iconst 0, 1) := by decide +kernel
theorem dd_X0_init_31 : decode Y_X0_init.2.1 31 = .ok (.putfield 21, 3) := by decide +kernel
theorem dd_X0_init_34 : decode Y_X0_init.2.1 34 = .ok (.aload_n 0, 1) := by decide +kernel
theorem dd_X0_init_35 : decode Y_X0_init.2.1 35 = .ok (.iconst 0, 1) := by decide +kernel
theorem dd_X0_init_36 : decode Y_X0_init.2.1 36 = .ok (.putfield 25, 3) := by decide +kernel
theorem dd_X0_init_39 : decode Y_X0_init.2.1 39 = .ok (.return_, 1) := by decide +kernel
theorem dd_X6_init_43 : decode Y_X6_init.2.1 43 = .ok (.putfield 35, 3) := by decide +kernel
theorem dd_X6_init_46 : decode Y_X6_init.2.1 46 = .ok (.aload_n 0, 1) := by decide +kernel
theorem dd_X6_init_47 : decode Y_X6_init.2.1 47 = .ok (.bipush 8, 2) := by decide +kernel
theorem dd_X6_init_49 : decode Y_X6_init.2.1 49 = .ok (.newarray .int, 2) := by decide +kernel
theorem dd_X6_init_51 : decode Y_X6_init.2.1 51 = .ok (.putfield 39, 3) := by decide +kernel
theorem dd_X6_init_54 : decode Y_X6_init.2.1 54 = .ok (.aload_n 0, 1) := by decide +kernel
theorem dd_X6_init_55 : decode Y_X6_init.2.1 55 = .ok (.bipush 8, 2) := by decide +kernel
theorem dd_X6_init_57 : decode Y_X6_init.2.1 57 = .ok (.newarray .int, 2) := by decide +kernel
theorem dd_X6_init_59 : decode Y_X6_init.2.1 59 = .ok (.putfield 43, 3) := by decide +kernel
theorem dd_X6_init_62 : decode Y_X6_init.2.1 62 = .ok (.aload_n 0, 1) := by decide +kernel
theorem dd_X6_init_63 : decode Y_X6_init.2.1 63 = .ok (.bipush 8, 2) := by decide +kernel
theorem dd_X6_init_65 : decode Y_X6_init.2.1 65 = .ok (.newarray .int, 2) := by decide +kernel
theorem dd_X6_init_67 : decode Y_X6_init.2.1 67 = .ok (.putfield 46, 3) := by decide +kernel
theorem dd_X6_init_70 : decode Y_X6_init.2.1 70 = .ok (.aload_n 0, 1) := by decide +kernel
theorem dd_X6_init_71 : decode Y_X6_init.2.1 71 = .ok (.bipush 8, 2) := by decide +kernel
theorem dd_X6_init_73 : decode Y_X6_init.2.1 73 = .ok (.newarray .int, 2) := by decide +kernel
theorem dd_X6_init_75 : decode Y_X6_init.2.1 75 = .ok (.putfield 49, 3) := by decide +kernel
theorem dd_X6_init_78 : decode Y_X6_init.2.1 78 = .ok (.aload_n 0, 1) := by decide +kernel
theorem dd_X6_init_79 : decode Y_X6_init.2.1 79 = .ok (.bipush 64, 2) := by decide +kernel
theorem dd_X6_init_81 : decode Y_X6_init.2.1 81 = .ok (.newarray .int, 2) := by decide +kernel
theorem dd_X6_init_83 : decode Y_X6_init.2.1 83 = .ok (.putfield 52, 3) := by decide +kernel
theorem dd_X6_init_86 : decode Y_X6_init.2.1 86 = .ok (.aload_n 0, 1) := by decide +kernel
theorem dd_X6_init_87 : decode Y_X6_init.2.1 87 = .ok (.bipush 12, 2) := by decide +kernel
theorem dd_X6_init_89 : decode Y_X6_init.2.1 89 = .ok (.newarray .int, 2) := by decide +kernel
theorem dd_X6_init_91 : decode Y_X6_init.2.1 91 = .ok (.putfield 55, 3) := by decide +kernel
theorem dd_X6_init_94 : decode Y_X6_init.2.1 94 = .ok (.aload_n 0, 1) := by decide +kernel
theorem dd_X6_init_95 : decode Y_X6_init.2.1 95 = .ok (.bipush 12, 2) := by decide +kernel
theorem dd_X6_init_97 : decode Y_X6_init.2.1 97 = .ok (.newarray .int, 2) := by decide +kernel
theorem dd_X6_init_99 : decode Y_X6_init.2.1 99 = .ok (.putfield 58, 3) := by decide +kernel
theorem dd_X6_init_102 : decode Y_X6_init.2.1 102 = .ok (.aload_n 0, 1) := by decide +kernel
theorem dd_X6_init_103 : decode Y_X6_init.2.1 103 = .ok (.bipush 12, 2) := by decide +kernel
theorem dd_X6_init_105 : decode Y_X6_init.2.1 105 = .ok (.newarray .int, 2) := by decide +kernel
theorem dd_X6_init_107 : decode Y_X6_init.2.1 107 = .ok (.putfield 61, 3) := by decide +kernel
theorem dd_X6_init_110 : decode Y_X6_init.2.1 110 = .ok (.return_, 1) := by decide +kernel
theorem dd_X11_init_23 : decode Y_X11_init.2.1 23 = .ok (.putfield 19, 3) := by decide +kernel
theorem dd_X11_init_26 : decode Y_X11_init.2.1 26 = .ok (.aload_n 0, 1) := by decide +kernel
theorem dd_X11_init_27 : decode Y_X11_init.2.1 27 = .ok (.new 16, 3) := by decide +kernel
theorem dd_X11_init_30 : decode Y_X11_init.2.1 30 = .ok (.dup, 1) := by decide +kernel
theorem dd_X11_init_31 : decode Y_X11_init.2.1 31 = .ok (.invokespecial 18, 3) := by decide +kernel
theorem dd_X11_init_34 : decode Y_X11_init.2.1 34 = .ok (.putfield 23, 3) := by decide +kernel
theorem dd_X11_init_37 : decode Y_X11_init.2.1 37 = .ok (.aload_n 0, 1) := by decide +kernel
theorem dd_X11_init_38 : decode Y_X11_init.2.1 38 = .ok (.new 26, 3) := by decide +kernel
theorem dd_X11_init_41 : decode Y_X11_init.2.1 41 = .ok (.dup, 1) := by decide +kernel
theorem dd_X11_init_42 : decode Y_X11_init.2.1 42 = .ok (.aload_n 0, 1) := by decide +kernel
theorem dd_X11_init_43 : decode Y_X11_init.2.1 43 = .ok (.getfield 10, 3) := by decide +kernel
theorem dd_X11_init_46 : decode Y_X11_init.2.1 46 = .ok (.aload_n 0, 1) := by decide +kernel
theorem dd_X11_init_47 : decode Y_X11_init.2.1 47 = .ok (.getfield 23, 3) := by decide +kernel
theorem dd_X11_init_50 : decode Y_X11_init.2.1 50 = .ok (.invokespecial 28, 3) := by decide +kernel
theorem dd_X7_init_0 : decode Y_X7_init.2.1 0 = .ok (.aload_n 0, 1) := by decide +kernel
theorem dd_X7_init_1 : decode Y_X7_init.2.1 1 = .ok (.invokespecial 3, 3) := by decide +kernel
theorem dd_X7_init_4 : decode Y_X7_init.2.1 4 = .ok (.aload_n 0, 1) := by decide +kernel
theorem dd_X7_init_5 : decode Y_X7_init.2.1 5 = .ok (.aload_n 1, 1) := by decide +kernel
theorem dd_X7_init_6 : decode Y_X7_init.2.1 6 = .ok (.putfield 9, 3) := by decide +kernel
theorem dd_X7_init_9 : decode Y_X7_init.2.1 9 = .ok (.aload_n 0, 1) := by decide +kernel
theorem dd_X7_init_10 : decode Y_X7_init.2.1 10 = .ok (.aload_n 2, 1) := by decide +kernel
theorem dd_X7_init_11 : decode Y_X7_init.2.1 11 = .ok (.putfield 15, 3) := by decide +kernel
theorem dd_X7_init_14 : decode Y_X7_init.2.1 14 = .ok (.return_, 1) := by decide +kernel
theorem dd_X11_init_53 : decode Y_X11_init.2.1 53 = .ok (.putfield 31, 3) := by decide +kernel
theorem dd_X11_init_56 : decode Y_X11_init.2.1 56 = .ok (.aload_n 0, 1) := by decide +kernel
theorem dd_X11_init_57 : decode Y_X11_init.2.1 57 = .ok (.new 35, 3) := by decide +kernel
theorem dd_X11_init_60 : decode Y_X11_init.2.1 60 = .ok (.dup, 1) := by decide +kernel
theorem dd_X11_init_61 : decode Y_X11_init.2.1 61 = .ok (.aload_n 0, 1) := by decide +kernel
theorem dd_X11_init_62 : decode Y_X11_init.2.1 62 = .ok (.getfield 19, 3) := by decide +kernel
theorem dd_X11_init_65 : decode Y_X11_init.2.1 65 = .ok (.invokespecial 37, 3) := by decide +kernel
theorem dd_X10_init_0 : decode Y_X10_init.2.1 0 = .ok (.aload_n 0, 1) := by decide +kernel
theorem dd_X10_init_1 : decode Y_X10_init.2.1 1 = .ok (.invokespecial 3, 3) := by decide +kernel
theorem dd_X10_init_4 : decode Y_X10_init.2.1 4 = .ok (.aload_n 0, 1) := by decide +kernel
theorem dd_X10_init_5 : decode Y_X10_init.2.1 5 = .ok (.bipush 8, 2) := by decide +kernel
theorem dd_X10_init_7 : decode Y_X10_init.2.1 7 = .ok (.newarray .int, 2) := by decide +kernel
theorem dd_X10_init_9 : decode Y_X10_init.2.1 9 = .ok (.putfield 9, 3) := by decide +kernel
theorem dd_X10_init_12 : decode Y_X10_init.2.1 12 = .ok (.aload_n 0, 1) := by decide +kernel
theorem dd_X10_init_13 : decode Y_X10_init.2.1 13 = .ok (.bipush 64, 2) := by decide +kernel
theorem dd_X10_init_15 : decode Y_X10_init.2.1 15 = .ok (.newarray .int, 2) := by decide +kernel
theorem dd_X10_init_17 : decode Y_X10_init.2.1 17 = .ok (.putfield 15, 3) := by decide +kernel
theorem dd_X10_init_20 : decode Y_X10_init.2.1 20 = .ok (.aload_n 0, 1) := by decide +kernel
theorem dd_X10_init_21 : decode Y_X10_init.2.1 21 = .ok (.iconst 0, 1) := by decide +kernel
theorem dd_X10_init_22 : decode Y_X10_init.2.1 22 = .ok (.putfield 18, 3) := by decide +kernel
theorem dd_X10_init_25 : decode Y_X10_init.2.1 25 = .ok (.aload_n 0, 1) := by decide +kernel
theorem dd_X10_init_26 : decode Y_X10_init.2.1 26 = .ok (.aload_n 1, 1) := by decide +kernel
theorem dd_X10_init_27 : decode Y_X10_init.2.1 27 = .ok (.putfield 22, 3) := by decide +kernel
theorem dd_X10_init_30 : decode Y_X10_init.2.1 30 = .ok (.return_, 1) := by decide +kernel
theorem dd_X11_init_68 : decode Y_X11_init.2.1 68 = .ok (.putfield 40, 3) := by decide +kernel
theorem dd_X11_init_71 : decode Y_X11_init.2.1 71 = .ok (.aload_n 0, 1) := by decide +kernel
theorem dd_X11_init_72 : decode Y_X11_init.2.1 72 = .ok (.new 35, 3) := by decide +kernel
theorem dd_X11_init_75 : decode Y_X11_init.2.1 75 = .ok (.dup, 1) := by decide +kernel
theorem dd_X11_init_76 : decode Y_X11_init.2.1 76 = .ok (.aload_n 0, 1) := by decide +kernel
theorem dd_X11_init_77 : decode Y_X11_init.2.1 77 = .ok (.getfield 19, 3) := by decide +kernel
theorem dd_X11_init_80 : decode Y_X11_init.2.1 80 = .ok (.invokespecial 37, 3) := by decide +kernel
theorem dd_X11_init_83 : decode Y_X11_init.2.1 83 = .ok (.putfield 44, 3) := by decide +kernel
theorem dd_X11_init_86 : decode Y_X11_init.2.1 86 = .ok (.aload_n 0, 1) := by decide +kernel
theorem dd_X11_init_87 : decode Y_X11_init.2.1 87 = .ok (.new 35, 3) := by decide +kernel
theorem dd_X11_init_90 : decode Y_X11_init.2.1 90 = .ok (.dup, 1) := by decide +kernel
theorem dd_X11_init_91 : decode Y_X11_init.2.1 91 = .ok (.aload_n 0, 1) := by decide +kernel
theorem dd_X11_init_92 : decode Y_X11_init.2.1 92 = .ok (.getfield 19, 3) := by decide +kernel
theorem dd_X11_init_95 : decode Y_X11_init.2.1 95 = .ok (.invokespecial 37, 3) := by decide +kernel
theorem dd_X11_init_98 : decode Y_X11_init.2.1 98 = .ok (.putfield 47, 3) := by decide +kernel
theorem dd_X11_init_101 : decode Y_X11_init.2.1 101 = .ok (.aload_n 0, 1) := by decide +kernel
theorem dd_X11_init_102 : decode Y_X11_init.2.1 102 = .ok (.new 50, 3) := by decide +kernel
theorem dd_X11_init_105 : decode Y_X11_init.2.1 105 = .ok (.dup, 1) := by decide +kernel
theorem dd_X11_init_106 : decode Y_X11_init.2.1 106 = .ok (.invokespecial 52, 3) := by decide +kernel
theorem dd_X3_init_0 : decode Y_X3_init.2.1 0 = .ok (.aload_n 0, 1) := by decide +kernel
theorem dd_X3_init_1 : decode Y_X3_init.2.1 1 = .ok (.invokespecial 3, 3) := by decide +kernel
theorem dd_X3_init_4 : decode Y_X3_init.2.1 4 = .ok (.aload_n 0, 1) := by decide +kernel
theorem dd_X3_init_5 : decode Y_X3_init.2.1 5 = .ok (.iconst 0, 1) := by decide +kernel
theorem dd_X3_init_6 : decode Y_X3_init.2.1 6 = .ok (.putfield 9, 3) := by decide +kernel
theorem dd_X3_init_9 : decode Y_X3_init.2.1 9 = .ok (.aload_n 0, 1) := by decide +kernel
theorem dd_X3_init_10 : decode Y_X3_init.2.1 10 = .ok (.iconst 0, 1) := by decide +kernel
theorem dd_X3_init_11 : decode Y_X3_init.2.1 11 = .ok (.putfield 15, 3) := by decide +kernel
theorem dd_X3_init_14 : decode Y_X3_init.2.1 14 = .ok (.aload_n 0, 1) := by decide +kernel
theorem dd_X3_init_15 : decode Y_X3_init.2.1 15 = .ok (.bipush 40, 2) := by decide +kernel
theorem dd_X3_init_17 : decode Y_X3_init.2.1 17 = .ok (.newarray .int, 2) := by decide +kernel
theorem dd_X3_init_19 : decode Y_X3_init.2.1 19 = .ok (.putfield 18, 3) := by decide +kernel
theorem dd_X3_init_22 : decode Y_X3_init.2.1 22 = .ok (.aload_n 0, 1) := by decide +kernel
theorem dd_X3_init_23 : decode Y_X3_init.2.1 23 = .ok (.bipush 40, 2) := by decide +kernel
theorem dd_X3_init_25 : decode Y_X3_init.2.1 25 = .ok (.newarray .int, 2) := by decide +kernel
theorem dd_X3_init_27 : decode Y_X3_init.2.1 27 = .ok (.putfield 22, 3) := by decide +kernel
theorem dd_X3_init_30 : decode Y_X3_init.2.1 30 = .ok (.aload_n 0, 1) := by decide +kernel
theorem dd_X3_init_31 : decode Y_X3_init.2.1 31 = .ok (.bipush 40, 2) := by decide +kernel
theorem dd_X3_init_33 : decode Y_X3_init.2.1 33 = .ok (.newarray .int, 2) := by decide +kernel
theorem dd_X3_init_35 : decode Y_X3_init.2.1 35 = .ok (.putfield 25, 3) := by decide +kernel
theorem dd_X3_init_38 : decode Y_X3_init.2.1 38 = .ok (.aload_n 0, 1) := by decide +kernel
theorem dd_X3_init_39 : decode Y_X3_init.2.1 39 = .ok (.bipush 40, 2) := by decide +kernel
theorem dd_X3_init_41 : decode Y_X3_init.2.1 41 = .ok (.newarray .int, 2) := by decide +kernel
theorem dd_X3_init_43 : decode Y_X3_init.2.1 43 = .ok (.putfield 28, 3) := by decide +kernel
theorem dd_X3_init_46 : decode Y_X3_init.2.1 46 = .ok (.aload_n 0, 1) := by decide +kernel
theorem dd_X3_init_47 : decode Y_X3_init.2.1 47 = .ok (.bipush 8, 2) := by decide +kernel
theorem dd_X3_init_49 : decode Y_X3_init.2.1 49 = .ok (.newarray .int, 2) := by decide +kernel
theorem dd_X3_init_51 : decode Y_X3_init.2.1 51 = .ok (.putfield 31, 3) := by decide +kernel
theorem dd_X3_init_54 : decode Y_X3_init.2.1 54 = .ok (.aload_n 0, 1) := by decide +kernel
theorem dd_X3_init_55 : decode Y_X3_init.2.1 55 = .ok (.bipush 8, 2) := by decide +kernel
theorem dd_X3_init_57 : decode Y_X3_init.2.1 57 = .ok (.newarray .int, 2) := by decide +kernel
theorem dd_X3_init_59 : decode Y_X3_init.2.1 59 = .ok (.putfield 34, 3) := by decide +kernel
theorem dd_X3_init_62 : decode Y_X3_init.2.1 62 = .ok (.return_, 1) := by decide +kernel
theorem dd_X11_init_109 : decode Y_X11_init.2.1 109 = .ok (.putfield 53, 3) := by decide +kernel
theorem dd_X11_init_112 : decode Y_X11_init.2.1 112 = .ok (.aload_n 0, 1) := by decide +kernel
theorem dd_X11_init_113 : decode Y_X11_init.2.1 113 = .ok (.new 50, 3) := by decide +kernel
theorem dd_X11_init_116 : decode Y_X11_init.2.1 116 = .ok (.dup, 1) := by decide +kernel
theorem dd_X11_init_117 : decode Y_X11_init.2.1 117 = .ok (.invokespecial 52, 3) := by decide +kernel
theorem dd_X11_init_120 : decode Y_X11_init.2.1 120 = .ok (.putfield 57, 3) := by decide +kernel
theorem dd_X11_init_123 : decode Y_X11_init.2.1 123 = .ok (.aload_n 0, 1) := by decide +kernel
theorem dd_X11_init_124 : decode Y_X11_init.2.1 124 = .ok (.new 60, 3) := by decide +kernel
theorem dd_X11_init_127 : decode Y_X11_init.2.1 127 = .ok (.dup, 1) := by decide +kernel
theorem dd_X11_init_128 : decode Y_X11_init.2.1 128 = .ok (.aload_n 0, 1) := by decide +kernel
theorem dd_X11_init_129 : decode Y_X11_init.2.1 129 = .ok (.getfield 19, 3) := by decide +kernel
theorem dd_X11_init_132 : decode Y_X11_init.2.1 132 = .ok (.aload_n 0, 1) := by decide +kernel
theorem dd_X11_init_133 : decode Y_X11_init.2.1 133 = .ok (.getfield 40, 3) := by decide +kernel
theorem dd_X11_init_136 : decode Y_X11_init.2.1 136 = .ok (.invokespecial 62, 3) := by decide +kernel
theorem dd_X1_init_0 : decode Y_X1_init.2.1 0 = .ok (.aload_n 0, 1) := by decide +kernel
theorem dd_X1_init_1 : decode Y_X1_init.2.1 1 = .ok (.invokespecial 3, 3) := by decide +kernel
theorem dd_X1_init_4 : decode Y_X1_init.2.1 4 = .ok (.aload_n 0, 1) := by decide +kernel
theorem dd_X1_init_5 : decode Y_X1_init.2.1 5 = .ok (.bipush 8, 2) := by decide +kernel
theorem dd_X1_init_7 : decode Y_X1_init.2.1 7 = .ok (.newarray .int, 2) := by decide +kernel
theorem dd_X1_init_9 : decode Y_X1_init.2.1 9 = .ok (.putfield 9, 3) := by decide +kernel
theorem dd_X1_init_12 : decode Y_X1_init.2.1 12 = .ok (.aload_n 0, 1) := by decide +kernel
theorem dd_X1_init_13 : decode Y_X1_init.2.1 13 = .ok (.iconst 0, 1) := by decide +kernel
theorem dd_X1_init_14 : decode Y_X1_init.2.1 14 = .ok (.putfield 15, 3) := by decide +kernel
theorem dd_X1_init_17 : decode Y_X1_init.2.1 17 = .ok (.aload_n 0, 1) := by decide +kernel
theorem dd_X1_init_18 : decode Y_X1_init.2.1 18 = .ok (.bipush 8, 2) := by decide +kernel
theorem dd_X1_init_20 : decode Y_X1_init.2.1 20 = .ok (.newarray .int, 2) := by decide +kernel
theorem dd_X1_init_22 : decode Y_X1_init.2.1 22 = .ok (.putfield 19, 3) := by decide +kernel
theorem dd_X1_init_25 : decode Y_X1_init.2.1 25 = .ok (.aload_n 0, 1) := by decide +kernel
theorem dd_X1_init_26 : decode Y_X1_init.2.1 26 = .ok (.sipush 256, 3) := by decide +kernel
theorem dd_X1_init_29 : decode Y_X1_init.2.1 29 = .ok (.newarray .int, 2) := by decide +kernel
theorem dd_X1_init_31 : decode Y_X1_init.2.1 31 = .ok (.putfield 22, 3) := by decide +kernel
theorem dd_X1_init_34 : decode Y_X1_init.2.1 34 = .ok (.aload_n 0, 1) := by decide +kernel
theorem dd_X1_init_35 : decode Y_X1_init.2.1 35 = .ok (.aload_n 1, 1) := by decide +kernel
theorem dd_X1_init_36 : decode Y_X1_init.2.1 36 = .ok (.putfield 25, 3) := by decide +kernel
theorem dd_X1_init_39 : decode Y_X1_init.2.1 39 = .ok (.aload_n 0, 1) := by decide +kernel
theorem dd_X1_init_40 : decode Y_X1_init.2.1 40 = .ok (.aload_n 2, 1) := by decide +kernel
theorem dd_X1_init_41 : decode Y_X1_init.2.1 41 = .ok (.putfield 29, 3) := by decide +kernel
theorem dd_X1_init_44 : decode Y_X1_init.2.1 44 = .ok (.return_, 1) := by decide +kernel
theorem dd_X11_init_139 : decode Y_X11_init.2.1 139 = .ok (.putfield 65, 3) := by decide +kernel
theorem dd_X11_init_142 : decode Y_X11_init.2.1 142 = .ok (.aload_n 0, 1) := by decide +kernel
theorem dd_X11_init_143 : decode Y_X11_init.2.1 143 = .ok (.new 69, 3) := by decide +kernel
theorem dd_X11_init_146 : decode Y_X11_init.2.1 146 = .ok (.dup, 1) := by decide +kernel
theorem dd_X11_init_147 : decode Y_X11_init.2.1 147 = .ok (.aload_n 0, 1) := by decide +kernel
theorem dd_X11_init_148 : decode Y_X11_init.2.1 148 = .ok (.getfield 40, 3) := by decide +kernel
theorem dd_X11_init_151 : decode Y_X11_init.2.1 151 = .ok (.invokespecial 71, 3) := by decide +kernel
theorem dd_X2_init_0 : decode Y_X2_init.2.1 0 = .ok (.aload_n 0, 1) := by decide +kernel
theorem dd_X2_init_1 : decode Y_X2_init.2.1 1 = .ok (.invokespecial 3, 3) := by decide +kernel
theorem dd_X2_init_4 : decode Y_X2_init.2.1 4 = .ok (.aload_n 0, 1) := by decide +kernel
theorem dd_X2_init_5 : decode Y_X2_init.2.1 5 = .ok (.sipush 4096, 3) := by decide +kernel
theorem dd_X2_init_8 : decode Y_X2_init.2.1 8 = .ok (.newarray .byte, 2) := by decide +kernel
theorem dd_X2_init_10 : decode Y_X2_init.2.1 10 = .ok (.putfield 9, 3) := by decide +kernel
theorem dd_X2_init_13 : decode Y_X2_init.2.1 13 = .ok (.aload_n 0, 1) := by decide +kernel
theorem dd_X2_init_14 : decode Y_X2_init.2.1 14 = .ok (.iconst (-1), 1) := by decide +kernel
theorem dd_X2_init_15 : decode Y_X2_init.2.1 15 = .ok (.putfield 15, 3) := by decide +kernel
theorem dd_X2_init_18 : decode Y_X2_init.2.1 18 = .ok (.aload_n 0, 1) := by decide +kernel
theorem dd_X2_init_19 : decode Y_X2_init.2.1 19 = .ok (.aload_n 1, 1) := by decide +kernel
theorem dd_X2_init_20 : decode Y_X2_init.2.1 20 = .ok (.putfield 19, 3) := by decide +kernel
theorem dd_X2_init_23 : decode Y_X2_init.2.1 23 = .ok (.return_, 1) := by decide +kernel
theorem dd_X11_init_154 : decode Y_X11_init.2.1 154 = .ok (.putfield 74, 3) := by decide +kernel
theorem dd_X11_init_157 : decode Y_X11_init.2.1 157 = .ok (.aload_n 0, 1) := by decide +kernel
theorem dd_X11_init_158 : decode Y_X11_init.2.1 158 = .ok (.new 78, 3) := by decide +kernel
theorem dd_X11_init_161 : decode Y_X11_init.2.1 161 = .ok (.dup, 1) := by decide +kernel
theorem dd_X11_init_162 : decode Y_X11_init.2.1 162 = .ok (.aload_n 0, 1) := by decide +kernel
theorem dd_X11_init_163 : decode Y_X11_init.2.1 163 = .ok (.getfield 40, 3) := by decide +kernel
theorem dd_X11_init_166 : decode Y_X11_init.2.1 166 = .ok (.aload_n 0, 1) := by decide +kernel
theorem dd_X11_init_167 : decode Y_X11_init.2.1 167 = .ok (.getfield 74, 3) := by decide +kernel
theorem dd_X11_init_170 : decode Y_X11_init.2.1 170 = .ok (.invokespecial 80, 3) := by decide +kernel
theorem dd_X4_init_0 : decode Y_X4_init.2.1 0 = .ok (.aload_n 0, 1) := by decide +kernel
theorem dd_X4_init_1 : decode Y_X4_init.2.1 1 = .ok (.invokespecial 3, 3) := by decide +kernel
theorem dd_X4_init_4 : decode Y_X4_init.2.1 4 = .ok (.aload_n 0, 1) := by decide +kernel
theorem dd_X4_init_5 : decode Y_X4_init.2.1 5 = .ok (.sipush 720, 3) := by decide +kernel
theorem dd_X4_init_8 : decode Y_X4_init.2.1 8 = .ok (.newarray .int, 2) := by decide +kernel
theorem dd_X4_init_10 : decode Y_X4_init.2.1 10 = .ok (.putfield 9, 3) := by decide +kernel
theorem dd_X4_init_13 : decode Y_X4_init.2.1 13 = .ok (.aload_n 0, 1) := by decide +kernel
theorem dd_X4_init_14 : decode Y_X4_init.2.1 14 = .ok (.iconst 0, 1) := by decide +kernel
theorem dd_X4_init_15 : decode Y_X4_init.2.1 15 = .ok (.putfield 15, 3) := by decide +kernel
theorem dd_X4_init_18 : decode Y_X4_init.2.1 18 = .ok (.aload_n 0, 1) := by decide +kernel
theorem dd_X4_init_19 : decode Y_X4_init.2.1 19 = .ok (.sipush 720, 3) := by decide +kernel
theorem dd_X4_init_22 : decode Y_X4_init.2.1 22 = .ok (.newarray .int, 2) := by decide +kernel
theorem dd_X4_init_24 : decode Y_X4_init.2.1 24 = .ok (.putfield 19, 3) := by decide +kernel
theorem dd_X4_init_27 : decode Y_X4_init.2.1 27 = .ok (.aload_n 0, 1) := by decide +kernel
theorem dd_X4_init_28 : decode Y_X4_init.2.1 28 = .ok (.sipush 720, 3) := by decide +kernel
theorem dd_X4_init_31 : decode Y_X4_init.2.1 31 = .ok (.newarray .int, 2) := by decide +kernel
theorem dd_X4_init_33 : decode Y_X4_init.2.1 33 = .ok (.putfield 22, 3) := by decide +kernel
theorem dd_X4_init_36 : decode Y_X4_init.2.1 36 = .ok (.aload_n 0, 1) := by decide +kernel
theorem dd_X4_init_37 : decode Y_X4_init.2.1 37 = .ok (.iconst (-1), 1) := by decide +kernel
theorem dd_X4_init_38 : decode Y_X4_init.2.1 38 = .ok (.putfield 25, 3) := by decide +kernel
theorem dd_X4_init_41 : decode Y_X4_init.2.1 41 = .ok (.aload_n 0, 1) := by decide +kernel
theorem dd_X4_init_42 : decode Y_X4_init.2.1 42 = .ok (.aload_n 1, 1) := by decide +kernel
theorem dd_X4_init_43 : decode Y_X4_init.2.1 43 = .ok (.putfield 28, 3) := by decide +kernel
theorem dd_X4_init_46 : decode Y_X4_init.2.1 46 = .ok (.aload_n 0, 1) := by decide +kernel
theorem dd_X4_init_47 : decode Y_X4_init.2.1 47 = .ok (.aload_n 2, 1) := by decide +kernel
theorem dd_X4_init_48 : decode Y_X4_init.2.1 48 = .ok (.putfield 32, 3) := by decide +kernel
theorem dd_X4_init_51 : decode Y_X4_init.2.1 51 = .ok (.return_, 1) := by decide +kernel
theorem dd_X11_init_173 : decode Y_X11_init.2.1 173 = .ok (.putfield 83, 3) := by decide +kernel
theorem dd_X11_init_176 : decode Y_X11_init.2.1 176 = .ok (.aload_n 0, 1) := by decide +kernel
theorem dd_X11_init_177 : decode Y_X11_init.2.1 177 = .ok (.new 87, 3) := by decide +kernel
theorem dd_X11_init_180 : decode Y_X11_init.2.1 180 = .ok (.dup, 1) := by decide +kernel
theorem dd_X11_init_181 : decode Y_X11_init.2.1 181 = .ok (.aload_n 0, 1) := by decide +kernel
theorem dd_X11_init_182 : decode Y_X11_init.2.1 182 = .ok (.getfield 40, 3) := by decide +kernel
theorem dd_X11_init_185 : decode Y_X11_init.2.1 185 = .ok (.aload_n 0, 1) := by decide +kernel
theorem dd_X11_init_186 : decode Y_X11_init.2.1 186 = .ok (.getfield 74, 3) := by decide +kernel
theorem dd_X11_init_189 : decode Y_X11_init.2.1 189 = .ok (.aload_n 0, 1) := by decide +kernel
theorem dd_X11_init_190 : decode Y_X11_init.2.1 190 = .ok (.getfield 53, 3) := by decide +kernel
theorem dd_X11_init_193 : decode Y_X11_init.2.1 193 = .ok (.invokespecial 89, 3) := by decide +kernel
theorem dd_X5_init_0 : decode Y_X5_init.2.1 0 = .ok (.aload_n 0, 1) := by decide +kernel
theorem dd_X5_init_1 : decode Y_X5_init.2.1 1 = .ok (.invokespecial 3, 3) := by decide +kernel
theorem dd_X5_init_4 : decode Y_X5_init.2.1 4 = .ok (.aload_n 0, 1) := by decide +kernel
theorem dd_X5_init_5 : decode Y_X5_init.2.1 5 = .ok (.bipush 8, 2) := by decide +kernel
theorem dd_X5_init_7 : decode Y_X5_init.2.1 7 = .ok (.newarray .int, 2) := by decide +kernel
theorem dd_X5_init_9 : decode Y_X5_init.2.1 9 = .ok (.putfield 9, 3) := by decide +kernel
theorem dd_X5_init_12 : decode Y_X5_init.2.1 12 = .ok (.aload_n 0, 1) := by decide +kernel
theorem dd_X5_init_13 : decode Y_X5_init.2.1 13 = .ok (.iconst 3, 1) := by decide +kernel
theorem dd_X5_init_14 : decode Y_X5_init.2.1 14 = .ok (.newarray .int, 2) := by decide +kernel
theorem dd_X5_init_16 : decode Y_X5_init.2.1 16 = .ok (.putfield 15, 3) := by decide +kernel
theorem dd_X5_init_19 : decode Y_X5_init.2.1 19 = .ok (.aload_n 0, 1) := by decide +kernel
theorem dd_X5_init_20 : decode Y_X5_init.2.1 20 = .ok (.iconst 3, 1) := by decide +kernel
theorem dd_X5_init_21 : decode Y_X5_init.2.1 21 = .ok (.newarray .int, 2) := by decide +kernel
theorem dd_X5_init_23 : decode Y_X5_init.2.1 23 = .ok (.putfield 18, 3) := by decide +kernel
theorem dd_X5_init_26 : decode Y_X5_init.2.1 26 = .ok (.aload_n 0, 1) := by decide +kernel
theorem dd_X5_init_27 : decode Y_X5_init.2.1 27 = .ok (.bipush 64, 2) := by decide +kernel
theorem dd_X5_init_29 : decode Y_X5_init.2.1 29 = .ok (.newarray .int, 2) := by decide +kernel
theorem dd_X5_init_31 : decode Y_X5_init.2.1 31 = .ok (.putfield 21, 3) := by decide +kernel
theorem dd_X5_init_34 : decode Y_X5_init.2.1 34 = .ok (.aload_n 0, 1) := by decide +kernel
theorem dd_X5_init_35 : decode Y_X5_init.2.1 35 = .ok (.iconst 0, 1) := by decide +kernel
theorem dd_X5_init_36 : decode Y_X5_init.2.1 36 = .ok (.putfield 24, 3) := by decide +kernel
theorem dd_X5_init_39 : decode Y_X5_init.2.1 39 = .ok (.aload_n 0, 1) := by decide +kernel
theorem dd_X5_init_40 : decode Y_X5_init.2.1 40 = .ok (.iconst 0, 1) := by decide +kernel
theorem dd_X5_init_41 : decode Y_X5_init.2.1 41 = .ok (.putfield 28, 3) := by decide +kernel
theorem dd_X5_init_44 : decode Y_X5_init.2.1 44 = .ok (.aload_n 0, 1) := by decide +kernel
theorem dd_X5_init_45 : decode Y_X5_init.2.1 45 = .ok (.iconst 0, 1) := by decide +kernel
theorem dd_X5_init_46 : decode Y_X5_init.2.1 46 = .ok (.putfield 31, 3) := by decide +kernel
theorem dd_X5_init_49 : decode Y_X5_init.2.1 49 = .ok (.aload_n 0, 1) := by decide +kernel
theorem dd_X5_init_50 : decode Y_X5_init.2.1 50 = .ok (.iconst (-1), 1) := by decide +kernel
theorem dd_X5_init_51 : decode Y_X5_init.2.1 51 = .ok (.putfield 35, 3) := by decide +kernel
theorem dd_X5_init_54 : decode Y_X5_init.2.1 54 = .ok (.aload_n 0, 1) := by decide +kernel
theorem dd_X5_init_55 : decode Y_X5_init.2.1 55 = .ok (.aload_n 1, 1) := by decide +kernel
theorem dd_X5_init_56 : decode Y_X5_init.2.1 56 = .ok (.putfield 38, 3) := by decide +kernel
theorem dd_X5_init_59 : decode Y_X5_init.2.1 59 = .ok (.aload_n 0, 1) := by decide +kernel
theorem dd_X5_init_60 : decode Y_X5_init.2.1 60 = .ok (.aload_n 2, 1) := by decide +kernel
theorem dd_X5_init_61 : decode Y_X5_init.2.1 61 = .ok (.putfield 42, 3) := by decide +kernel
theorem dd_X5_init_64 : decode Y_X5_init.2.1 64 = .ok (.aload_n 0, 1) := by decide +kernel
theorem dd_X5_init_65 : decode Y_X5_init.2.1 65 = .ok (.aload_n 3, 1) := by decide +kernel
theorem dd_X5_init_66 : decode Y_X5_init.2.1 66 = .ok (.putfield 46, 3) := by decide +kernel
theorem dd_X5_init_69 : decode Y_X5_init.2.1 69 = .ok (.return_, 1) := by decide +kernel
theorem dd_X11_init_196 : decode Y_X11_init.2.1 196 = .ok (.putfield 92, 3) := by decide +kernel
theorem dd_X11_init_199 : decode Y_X11_init.2.1 199 = .ok (.aload_n 0, 1) := by decide +kernel
theorem dd_X11_init_200 : decode Y_X11_init.2.1 200 = .ok (.iconst 3, 1) := by decide +kernel
theorem dd_X11_init_201 : decode Y_X11_init.2.1 201 = .ok (.newarray .int, 2) := by decide +kernel
theorem dd_X11_init_203 : decode Y_X11_init.2.1 203 = .ok (.putfield 96, 3) := by decide +kernel
theorem dd_X11_init_206 : decode Y_X11_init.2.1 206 = .ok (.aload_n 0, 1) := by decide +kernel
theorem dd_X11_init_207 : decode Y_X11_init.2.1 207 = .ok (.iconst 0, 1) := by decide +kernel
theorem dd_X11_init_208 : decode Y_X11_init.2.1 208 = .ok (.putfield 100, 3) := by decide +kernel
theorem dd_X11_init_211 : decode Y_X11_init.2.1 211 = .ok (.aload_n 0, 1) := by decide +kernel
theorem dd_X11_init_212 : decode Y_X11_init.2.1 212 = .ok (.iconst 0, 1) := by decide +kernel
theorem dd_X11_init_213 : decode Y_X11_init.2.1 213 = .ok (.putfield 104, 3) := by decide +kernel
theorem dd_X11_init_216 : decode Y_X11_init.2.1 216 = .ok (.return_, 1) := by decide +kernel
theorem dd_X12_init_0 : decode Y_X12_init.2.1 0 = .ok (.aload_n 0, 1) := by decide +kernel
theorem dd_X12_init_1 : decode Y_X12_init.2.1 1 = .ok (.invokespecial 1, 3) := by decide +kernel
theorem dd_X12_init_4 : decode Y_X12_init.2.1 4 = .ok (.aload_n 0, 1) := by decide +kernel
theorem dd_X12_init_5 : decode Y_X12_init.2.1 5 = .ok (.iconst 3, 1) := by decide +kernel
theorem dd_X12_init_6 : decode Y_X12_init.2.1 6 = .ok (.putfield 7, 3) := by decide +kernel
theorem dd_X12_init_9 : decode Y_X12_init.2.1 9 = .ok (.aload_n 0, 1) := by decide +kernel
theorem dd_X12_init_10 : decode Y_X12_init.2.1 10 = .ok (.iconst (-1), 1) := by decide +kernel
theorem dd_X12_init_11 : decode Y_X12_init.2.1 11 = .ok (.putfield 13, 3) := by decide +kernel
theorem dd_X12_init_14 : decode Y_X12_init.2.1 14 = .ok (.aload_n 0, 1) := by decide +kernel
theorem dd_X12_init_15 : decode Y_X12_init.2.1 15 = .ok (.bipush 72, 2) := by decide +kernel
theorem dd_X12_init_17 : decode Y_X12_init.2.1 17 = .ok (.newarray .int, 2) := by decide +kernel
theorem dd_X12_init_19 : decode Y_X12_init.2.1 19 = .ok (.putfield 16, 3) := by decide +kernel
theorem dd_X12_init_22 : decode Y_X12_init.2.1 22 = .ok (.aload_n 0, 1) := by decide +kernel
theorem dd_X12_init_23 : decode Y_X12_init.2.1 23 = .ok (.bipush 8, 2) := by decide +kernel
theorem dd_X12_init_25 : decode Y_X12_init.2.1 25 = .ok (.newarray .int, 2) := by decide +kernel
theorem dd_X12_init_27 : decode Y_X12_init.2.1 27 = .ok (.putfield 20, 3) := by decide +kernel
theorem dd_X12_init_30 : decode Y_X12_init.2.1 30 = .ok (.aload_n 0, 1) := by decide +kernel
theorem dd_X12_init_31 : decode Y_X12_init.2.1 31 = .ok (.bipush 8, 2) := by decide +kernel
theorem dd_X12_init_33 : decode Y_X12_init.2.1 33 = .ok (.newarray .int, 2) := by decide +kernel
theorem dd_X12_init_35 : decode Y_X12_init.2.1 35 = .ok (.putfield 23, 3) := by decide +kernel
theorem dd_X12_init_38 : decode Y_X12_init.2.1 38 = .ok (.aload_n 0, 1) := by decide +kernel
theorem dd_X12_init_39 : decode Y_X12_init.2.1 39 = .ok (.bipush 8, 2) := by decide +kernel
theorem dd_X12_init_41 : decode Y_X12_init.2.1 41 = .ok (.newarray .int, 2) := by decide +kernel
theorem dd_X12_init_43 : decode Y_X12_init.2.1 43 = .ok (.putfield 26, 3) := by decide +kernel
theorem dd_X12_init_46 : decode Y_X12_init.2.1 46 = .ok (.aload_n 0, 1) := by decide +kernel
theorem dd_X12_init_47 : decode Y_X12_init.2.1 47 = .ok (.bipush 8, 2) := by decide +kernel
theorem dd_X12_init_49 : decode Y_X12_init.2.1 49 = .ok (.newarray .int, 2) := by decide +kernel
theorem dd_X12_init_51 : decode Y_X12_init.2.1 51 = .ok (.putfield 29, 3) := by decide +kernel
theorem dd_X12_init_54 : decode Y_X12_init.2.1 54 = .ok (.aload_n 0, 1) := by decide +kernel
theorem dd_X12_init_55 : decode Y_X12_init.2.1 55 = .ok (.bipush 64, 2) := by decide +kernel
theorem dd_X12_init_57 : decode Y_X12_init.2.1 57 = .ok (.newarray .int, 2) := by decide +kernel
theorem dd_X12_init_59 : decode Y_X12_init.2.1 59 = .ok (.putfield 32, 3) := by decide +kernel
theorem dd_X12_init_62 : decode Y_X12_init.2.1 62 = .ok (.aload_n 0, 1) := by decide +kernel
theorem dd_X12_init_63 : decode Y_X12_init.2.1 63 = .ok (.bipush 8, 2) := by decide +kernel
theorem dd_X12_init_65 : decode Y_X12_init.2.1 65 = .ok (.newarray .int, 2) := by decide +kernel
theorem dd_X12_init_67 : decode Y_X12_init.2.1 67 = .ok (.putfield 35, 3) := by decide +kernel
theorem dd_X12_init_70 : decode Y_X12_init.2.1 70 = .ok (.aload_n 0, 1) := by decide +kernel
theorem dd_X12_init_71 : decode Y_X12_init.2.1 71 = .ok (.bipush 36, 2) := by decide +kernel
theorem dd_X12_init_73 : decode Y_X12_init.2.1 73 = .ok (.newarray .int, 2) := by decide +kernel
theorem dd_X12_init_75 : decode Y_X12_init.2.1 75 = .ok (.putfield 38, 3) := by decide +kernel
theorem dd_X12_init_78 : decode Y_X12_init.2.1 78 = .ok (.aload_n 0, 1) := by decide +kernel
theorem dd_X12_init_79 : decode Y_X12_init.2.1 79 = .ok (.sipush 1900, 3) := by decide +kernel
theorem dd_X12_init_82 : decode Y_X12_init.2.1 82 = .ok (.newarray .int, 2) := by decide +kernel
theorem dd_X12_init_84 : decode Y_X12_init.2.1 84 = .ok (.putfield 41, 3) := by decide +kernel
theorem dd_X12_init_87 : decode Y_X12_init.2.1 87 = .ok (.aload_n 0, 1) := by decide +kernel
theorem dd_X12_init_88 : decode Y_X12_init.2.1 88 = .ok (.sipush 700, 3) := by decide +kernel
theorem dd_X12_init_91 : decode Y_X12_init.2.1 91 = .ok (.newarray .int, 2) := by decide +kernel
theorem dd_X12_init_93 : decode Y_X12_init.2.1 93 = .ok (.putfield 44, 3) := by decide +kernel
theorem dd_X12_init_96 : decode Y_X12_init.2.1 96 = .ok (.aload_n 0, 1) := by decide +kernel
theorem dd_X12_init_97 : decode Y_X12_init.2.1 97 = .ok (.iconst (-1), 1) := by decide +kernel
theorem dd_X12_init_98 : decode Y_X12_init.2.1 98 = .ok (.putfield 47, 3) := by decide +kernel
theorem dd_X12_init_101 : decode Y_X12_init.2.1 101 = .ok (.aload_n 0, 1) := by decide +kernel
theorem dd_X12_init_102 : decode Y_X12_init.2.1 102 = .ok (.iconst 3, 1) := by decide +kernel
theorem dd_X12_init_103 : decode Y_X12_init.2.1 103 = .ok (.newarray .int, 2) := by decide +kernel
theorem dd_X12_init_105 : decode Y_X12_init.2.1 105 = .ok (.putfield 50, 3) := by decide +kernel
theorem dd_X12_init_108 : decode Y_X12_init.2.1 108 = .ok (.aload_n 0, 1) := by decide +kernel
theorem dd_X12_init_109 : decode Y_X12_init.2.1 109 = .ok (.bipush 72, 2) := by decide +kernel
theorem dd_X12_init_111 : decode Y_X12_init.2.1 111 = .ok (.newarray .int, 2) := by decide +kernel
theorem dd_X12_init_113 : decode Y_X12_init.2.1 113 = .ok (.putfield 53, 3) := by decide +kernel
theorem dd_X12_init_116 : decode Y_X12_init.2.1 116 = .ok (.aload_n 0, 1) := by decide +kernel
theorem dd_X12_init_117 : decode Y_X12_init.2.1 117 = .ok (.bipush 8, 2) := by decide +kernel
theorem dd_X12_init_119 : decode Y_X12_init.2.1 119 = .ok (.newarray .int, 2) := by decide +kernel
theorem dd_X12_init_121 : decode Y_X12_init.2.1 121 = .ok (.putfield 56, 3) := by decide +kernel
theorem dd_X12_init_124 : decode Y_X12_init.2.1 124 = .ok (.aload_n 0, 1) := by decide +kernel
theorem dd_X12_init_125 : decode Y_X12_init.2.1 125 = .ok (.bipush 8, 2) := by decide +kernel
theorem dd_X12_init_127 : decode Y_X12_init.2.1 127 = .ok (.newarray .int, 2) := by decide +kernel
theorem dd_X12_init_129 : decode Y_X12_init.2.1 129 = .ok (.putfield 59, 3) := by decide +kernel
theorem dd_X12_init_132 : decode Y_X12_init.2.1 132 = .ok (.aload_n 0, 1) := by decide +kernel
theorem dd_X12_init_133 : decode Y_X12_init.2.1 133 = .ok (.bipush 8, 2) := by decide +kernel
theorem dd_X12_init_135 : decode Y_X12_init.2.1 135 = .ok (.newarray .int, 2) := by decide +kernel
theorem dd_X12_init_137 : decode Y_X12_init.2.1 137 = .ok (.putfield 62, 3) := by decide +kernel
theorem dd_X12_init_140 : decode Y_X12_init.2.1 140 = .ok (.aload_n 0, 1) := by decide +kernel
theorem dd_X12_init_141 : decode Y_X12_init.2.1 141 = .ok (.bipush 8, 2) := by decide +kernel
theorem dd_X12_init_143 : decode Y_X12_init.2.1 143 = .ok (.newarray .int, 2) := by decide +kernel
theorem dd_X12_init_145 : decode Y_X12_init.2.1 145 = .ok (.putfield 65, 3) := by decide +kernel
theorem dd_X12_init_148 : decode Y_X12_init.2.1 148 = .ok (.aload_n 0, 1) := by decide +kernel
theorem dd_X12_init_149 : decode Y_X12_init.2.1 149 = .ok (.bipush 64, 2) := by decide +kernel
theorem dd_X12_init_151 : decode Y_X12_init.2.1 151 = .ok (.newarray .int, 2) := by decide +kernel
theorem dd_X12_init_153 : decode Y_X12_init.2.1 153 = .ok (.putfield 68, 3) := by decide +kernel
theorem dd_X12_init_156 : decode Y_X12_init.2.1 156 = .ok (.aload_n 0, 1) := by decide +kernel
theorem dd_X12_init_157 : decode Y_X12_init.2.1 157 = .ok (.bipush 8, 2) := by decide +kernel
theorem dd_X12_init_159 : decode Y_X12_init.2.1 159 = .ok (.newarray .int, 2) := by decide +kernel
theorem dd_X12_init_161 : decode Y_X12_init.2.1 161 = .ok (.putfield 71, 3) := by decide +kernel
theorem dd_X12_init_164 : decode Y_X12_init.2.1 164 = .ok (.aload_n 0, 1) := by decide +kernel
theorem dd_X12_init_165 : decode Y_X12_init.2.1 165 = .ok (.bipush 36, 2) := by decide +kernel
theorem dd_X12_init_167 : decode Y_X12_init.2.1 167 = .ok (.newarray .int, 2) := by decide +kernel
theorem dd_X12_init_169 : decode Y_X12_init.2.1 169 = .ok (.putfield 74, 3) := by decide +kernel
theorem dd_X12_init_172 : decode Y_X12_init.2.1 172 = .ok (.aload_n 0, 1) := by decide +kernel
theorem dd_X12_init_173 : decode Y_X12_init.2.1 173 = .ok (.sipush 1900, 3) := by decide +kernel
theorem dd_X12_init_176 : decode Y_X12_init.2.1 176 = .ok (.newarray .int, 2) := by decide +kernel
theorem dd_X12_init_178 : decode Y_X12_init.2.1 178 = .ok (.putfield 77, 3) := by decide +kernel
theorem dd_X12_init_181 : decode Y_X12_init.2.1 181 = .ok (.aload_n 0, 1) := by decide +kernel
theorem dd_X12_init_182 : decode Y_X12_init.2.1 182 = .ok (.sipush 950, 3) := by decide +kernel
theorem dd_X12_init_185 : decode Y_X12_init.2.1 185 = .ok (.newarray .int, 2) := by decide +kernel
theorem dd_X12_init_187 : decode Y_X12_init.2.1 187 = .ok (.putfield 80, 3) := by decide +kernel
theorem dd_X12_init_190 : decode Y_X12_init.2.1 190 = .ok (.aload_n 0, 1) := by decide +kernel
theorem dd_X12_init_191 : decode Y_X12_init.2.1 191 = .ok (.bipush 9, 2) := by decide +kernel
theorem dd_X12_init_193 : decode Y_X12_init.2.1 193 = .ok (.newarray .boolean, 2) := by decide +kernel
theorem dd_X12_init_195 : decode Y_X12_init.2.1 195 = .ok (.putfield 83, 3) := by decide +kernel
theorem dd_X12_init_198 : decode Y_X12_init.2.1 198 = .ok (.aload_n 0, 1) := by decide +kernel
theorem dd_X12_init_199 : decode Y_X12_init.2.1 199 = .ok (.bipush 73, 2) := by decide +kernel
theorem dd_X12_init_201 : decode Y_X12_init.2.1 201 = .ok (.newarray .int, 2) := by decide +kernel
theorem dd_X12_init_203 : decode Y_X12_init.2.1 203 = .ok (.putfield 87, 3) := by decide +kernel
theorem dd_X12_init_206 : decode Y_X12_init.2.1 206 = .ok (.aload_n 0, 1) := by decide +kernel
theorem dd_X12_init_207 : decode Y_X12_init.2.1 207 = .ok (.bipush 73, 2) := by decide +kernel
theorem dd_X12_init_209 : decode Y_X12_init.2.1 209 = .ok (.newarray .int, 2) := by decide +kernel
theorem dd_X12_init_211 : decode Y_X12_init.2.1 211 = .ok (.putfield 90, 3) := by decide +kernel
theorem dd_X12_init_214 : decode Y_X12_init.2.1 214 = .ok (.aload_n 0, 1) := by decide +kernel
theorem dd_X12_init_215 : decode Y_X12_init.2.1 215 = .ok (.sipush 2920, 3) := by decide +kernel
theorem dd_X12_init_218 : decode Y_X12_init.2.1 218 = .ok (.newarray .int, 2) := by decide +kernel
theorem dd_X12_init_220 : decode Y_X12_init.2.1 220 = .ok (.putfield 93, 3) := by decide +kernel
theorem dd_X12_init_223 : decode Y_X12_init.2.1 223 = .ok (.aload_n 0, 1) := by decide +kernel
theorem dd_X12_init_224 : decode Y_X12_init.2.1 224 = .ok (.bipush 7, 2) := by decide +kernel
theorem dd_X12_init_226 : decode Y_X12_init.2.1 226 = .ok (.newarray .int, 2) := by decide +kernel
theorem dd_X12_init_228 : decode Y_X12_init.2.1 228 = .ok (.putfield 96, 3) := by decide +kernel
theorem dd_X12_init_231 : decode Y_X12_init.2.1 231 = .ok (.aload_n 0, 1) := by decide +kernel
theorem dd_X12_init_232 : decode Y_X12_init.2.1 232 = .ok (.sipush 950, 3) := by decide +kernel
theorem dd_X12_init_235 : decode Y_X12_init.2.1 235 = .ok (.newarray .int, 2) := by decide +kernel
theorem dd_X12_init_237 : decode Y_X12_init.2.1 237 = .ok (.putfield 99, 3) := by decide +kernel
theorem dd_X12_init_240 : decode Y_X12_init.2.1 240 = .ok (.aload_n 0, 1) := by decide +kernel
theorem dd_X12_init_241 : decode Y_X12_init.2.1 241 = .ok (.bipush 8, 2) := by decide +kernel
theorem dd_X12_init_243 : decode Y_X12_init.2.1 243 = .ok (.newarray .int, 2) := by decide +kernel
theorem dd_X12_init_245 : decode Y_X12_init.2.1 245 = .ok (.putfield 102, 3) := by decide +kernel
theorem dd_X12_init_248 : decode Y_X12_init.2.1 248 = .ok (.aload_n 0, 1) := by decide +kernel
theorem dd_X12_init_249 : decode Y_X12_init.2.1 249 = .ok (.sipush 256, 3) := by decide +kernel
theorem dd_X12_init_252 : decode Y_X12_init.2.1 252 = .ok (.newarray .int, 2) := by decide +kernel
theorem dd_X12_init_254 : decode Y_X12_init.2.1 254 = .ok (.putfield 105, 3) := by decide +kernel
theorem dd_X12_init_257 : decode Y_X12_init.2.1 257 = .ok (.aload_n 0, 1) := by decide +kernel
theorem dd_X12_init_258 : decode Y_X12_init.2.1 258 = .ok (.sipush 720, 3) := by decide +kernel
theorem dd_X12_init_261 : decode Y_X12_init.2.1 261 = .ok (.newarray .int, 2) := by decide +kernel
theorem dd_X12_init_263 : decode Y_X12_init.2.1 263 = .ok (.putfield 108, 3) := by decide +kernel
theorem dd_X12_init_266 : decode Y_X12_init.2.1 266 = .ok (.aload_n 0, 1) := by decide +kernel
theorem dd_X12_init_267 : decode Y_X12_init.2.1 267 = .ok (.sipush 720, 3) := by decide +kernel
theorem dd_X12_init_270 : decode Y_X12_init.2.1 270 = .ok (.newarray .int, 2) := by decide +kernel
theorem dd_X12_init_272 : decode Y_X12_init.2.1 272 = .ok (.putfield 111, 3) := by decide +kernel
theorem dd_X12_init_275 : decode Y_X12_init.2.1 275 = .ok (.aload_n 0, 1) := by decide +kernel
theorem dd_X12_init_276 : decode Y_X12_init.2.1 276 = .ok (.sipush 720, 3) := by decide +kernel
theorem dd_X12_init_279 : decode Y_X12_init.2.1 279 = .ok (.newarray .int, 2) := by decide +kernel
theorem dd_X12_init_281 : decode Y_X12_init.2.1 281 = .ok (.putfield 114, 3) := by decide +kernel
theorem dd_X12_init_284 : decode Y_X12_init.2.1 284 = .ok (.aload_n 0, 1) := by decide +kernel
theorem dd_X12_init_285 : decode Y_X12_init.2.1 285 = .ok (.sipush 720, 3) := by decide +kernel
theorem dd_X12_init_288 : decode Y_X12_init.2.1 288 = .ok (.newarray .int, 2) := by decide +kernel
theorem dd_X12_init_290 : decode Y_X12_init.2.1 290 = .ok (.putfield 117, 3) := by decide +kernel
theorem dd_X12_init_293 : decode Y_X12_init.2.1 293 = .ok (.aload_n 0, 1) := by decide +kernel
theorem dd_X12_init_294 : decode Y_X12_init.2.1 294 = .ok (.bipush 8, 2) := by decide +kernel
theorem dd_X12_init_296 : decode Y_X12_init.2.1 296 = .ok (.newarray .int, 2) := by decide +kernel
theorem dd_X12_init_298 : decode Y_X12_init.2.1 298 = .ok (.putfield 120, 3) := by decide +kernel
theorem dd_X12_init_301 : decode Y_X12_init.2.1 301 = .ok (.aload_n 0, 1) := by decide +kernel
theorem dd_X12_init_302 : decode Y_X12_init.2.1 302 = .ok (.iconst 5, 1) := by decide +kernel
theorem dd_X12_init_303 : decode Y_X12_init.2.1 303 = .ok (.newarray .int, 2) := by decide +kernel
theorem dd_X12_init_305 : decode Y_X12_init.2.1 305 = .ok (.putfield 123, 3) := by decide +kernel
theorem dd_X12_init_308 : decode Y_X12_init.2.1 308 = .ok (.aload_n 0, 1) := by decide +kernel
theorem dd_X12_init_309 : decode Y_X12_init.2.1 309 = .ok (.iconst 5, 1) := by decide +kernel
theorem dd_X12_init_310 : decode Y_X12_init.2.1 310 = .ok (.newarray .int, 2) := by decide +kernel
theorem dd_X12_init_312 : decode Y_X12_init.2.1 312 = .ok (.putfield 126, 3) := by decide +kernel
theorem dd_X12_init_315 : decode Y_X12_init.2.1 315 = .ok (.aload_n 0, 1) := by decide +kernel
theorem dd_X12_init_316 : decode Y_X12_init.2.1 316 = .ok (.bipush 16, 2) := by decide +kernel
theorem dd_X12_init_318 : decode Y_X12_init.2.1 318 = .ok (.newarray .int, 2) := by decide +kernel
theorem dd_X12_init_320 : decode Y_X12_init.2.1 320 = .ok (.putfield 129, 3) := by decide +kernel
theorem dd_X12_init_323 : decode Y_X12_init.2.1 323 = .ok (.aload_n 0, 1) := by decide +kernel
theorem dd_X12_init_324 : decode Y_X12_init.2.1 324 = .ok (.bipush 28, 2) := by decide +kernel
theorem dd_X12_init_326 : decode Y_X12_init.2.1 326 = .ok (.newarray .int, 2) := by decide +kernel
theorem dd_X12_init_328 : decode Y_X12_init.2.1 328 = .ok (.putfield 132, 3) := by decide +kernel
theorem dd_X12_init_331 : decode Y_X12_init.2.1 331 = .ok (.aload_n 0, 1) := by decide +kernel
theorem dd_X12_init_332 : decode Y_X12_init.2.1 332 = .ok (.iconst 3, 1) := by decide +kernel
theorem dd_X12_init_333 : decode Y_X12_init.2.1 333 = .ok (.newarray .int, 2) := by decide +kernel
theorem dd_X12_init_335 : decode Y_X12_init.2.1 335 = .ok (.putfield 135, 3) := by decide +kernel
theorem dd_X12_init_338 : decode Y_X12_init.2.1 338 = .ok (.aload_n 0, 1) := by decide +kernel
theorem dd_X12_init_339 : decode Y_X12_init.2.1 339 = .ok (.iconst 3, 1) := by decide +kernel
theorem dd_X12_init_340 : decode Y_X12_init.2.1 340 = .ok (.newarray .int, 2) := by decide +kernel
theorem dd_X12_init_342 : decode Y_X12_init.2.1 342 = .ok (.putfield 138, 3) := by decide +kernel
theorem dd_X12_init_345 : decode Y_X12_init.2.1 345 = .ok (.aload_n 0, 1) := by decide +kernel
theorem dd_X12_init_346 : decode Y_X12_init.2.1 346 = .ok (.bipush 64, 2) := by decide +kernel
theorem dd_X12_init_348 : decode Y_X12_init.2.1 348 = .ok (.newarray .int, 2) := by decide +kernel
theorem dd_X12_init_350 : decode Y_X12_init.2.1 350 = .ok (.putfield 141, 3) := by decide +kernel
theorem dd_X12_init_353 : decode Y_X12_init.2.1 353 = .ok (.aload_n 0, 1) := by decide +kernel
theorem dd_X12_init_354 : decode Y_X12_init.2.1 354 = .ok (.bipush 73, 2) := by decide +kernel
theorem dd_X12_init_356 : decode Y_X12_init.2.1 356 = .ok (.newarray .int, 2) := by decide +kernel
theorem dd_X12_init_358 : decode Y_X12_init.2.1 358 = .ok (.putfield 144, 3) := by decide +kernel
theorem dd_X12_init_361 : decode Y_X12_init.2.1 361 = .ok (.aload_n 0, 1) := by decide +kernel
theorem dd_X12_init_362 : decode Y_X12_init.2.1 362 = .ok (.sipush 2920, 3) := by decide +kernel
theorem dd_X12_init_365 : decode Y_X12_init.2.1 365 = .ok (.newarray .int, 2) := by decide +kernel
theorem dd_X12_init_367 : decode Y_X12_init.2.1 367 = .ok (.putfield 147, 3) := by decide +kernel
theorem dd_X12_init_370 : decode Y_X12_init.2.1 370 = .ok (.aload_n 0, 1) := by decide +kernel
theorem dd_X12_init_371 : decode Y_X12_init.2.1 371 = .ok (.bipush 16, 2) := by decide +kernel
theorem dd_X12_init_373 : decode Y_X12_init.2.1 373 = .ok (.newarray .int, 2) := by decide +kernel
theorem dd_X12_init_375 : decode Y_X12_init.2.1 375 = .ok (.putfield 150, 3) := by decide +kernel
theorem dd_X12_init_378 : decode Y_X12_init.2.1 378 = .ok (.return_, 1) := by decide +kernel
