/-! rows of links, by program (gen.py, mkparts.py) -/

theorem gf_RX6_58 : zFd RX6 58 6 12 (.array .int) := ⟨RX6, TX6, 14, tyX6, rfl, inX_6, by decide, (zmem 281 (by decide +kernel) (by decide +kernel)), tyX6_ok, nmX6, by decide +kernel, by decide, by decide +kernel, by decide⟩
theorem gf_RX6_61 : zFd RX6 61 6 13 (.array .int) := ⟨RX6, TX6, 14, tyX6, rfl, inX_6, by decide, (zmem 284 (by decide +kernel) (by decide +kernel)), tyX6_ok, nmX6, by decide +kernel, by decide, by decide +kernel, by decide⟩
theorem gf_RX6_92 : zFd RX6 92 0 4 (.boolean) := ⟨RX0, TX0, 5, tyX0, rfl, inX_0, by decide, (zmem 227 (by decide +kernel) (by decide +kernel)), tyX0_ok, nmX0, by decide +kernel, by decide, by decide +kernel, by decide⟩
theorem gf_RX6_95 : zFd RX6 95 0 0 (.array .int) := ⟨RX0, TX0, 5, tyX0, rfl, inX_0, by decide, (zmem 222 (by decide +kernel) (by decide +kernel)), tyX0_ok, nmX0, by decide +kernel, by decide, by decide +kernel, by decide⟩
theorem gf_RX6_98 : zFd RX6 98 9 1 (.array .int) := ⟨RX9, TX9, 6, tyX9, rfl, inX_9, by decide, (zmem 193 (by decide +kernel) (by decide +kernel)), tyX9_ok, nmX9, by decide +kernel, by decide, by decide +kernel, by decide⟩
theorem gf_RX7_9 : zFd RX7 9 7 0 (.object "BarterIsles$Tape") := ⟨RX7, TX7, 2, tyX7, rfl, inX_7, by decide, (zmem 322 (by decide +kernel) (by decide +kernel)), tyX7_ok, nmX7, by decide +kernel, by decide, by decide +kernel, by decide⟩
theorem gf_RX7_15 : zFd RX7 15 7 1 (.object "BarterIsles$Sea") := ⟨RX7, TX7, 2, tyX7, rfl, inX_7, by decide, (zmem 323 (by decide +kernel) (by decide +kernel)), tyX7_ok, nmX7, by decide +kernel, by decide, by decide +kernel, by decide⟩
theorem gf_RX7_30 : zFd RX7 30 8 7 (.int) := ⟨RX8, TX8, 9, tyX8, rfl, inX_8, by decide, (zmem 156 (by decide +kernel) (by decide +kernel)), tyX8_ok, nmX8, by decide +kernel, by decide, by decide +kernel, by decide⟩
theorem gf_RX7_34 : zFd RX7 34 8 3 (.int) := ⟨RX8, TX8, 9, tyX8, rfl, inX_8, by decide, (zmem 148 (by decide +kernel) (by decide +kernel)), tyX8_ok, nmX8, by decide +kernel, by decide, by decide +kernel, by decide⟩
theorem gf_RX7_75 : zFd RX7 75 6 0 (.int) := ⟨RX6, TX6, 14, tyX6, rfl, inX_6, by decide, (zmem 243 (by decide +kernel) (by decide +kernel)), tyX6_ok, nmX6, by decide +kernel, by decide, by decide +kernel, by decide⟩
theorem gf_RX7_92 : zFd RX7 92 6 6 (.array .int) := ⟨RX6, TX6, 14, tyX6, rfl, inX_6, by decide, (zmem 263 (by decide +kernel) (by decide +kernel)), tyX6_ok, nmX6, by decide +kernel, by decide, by decide +kernel, by decide⟩
theorem gf_RX7_96 : zFd RX7 96 6 7 (.array .int) := ⟨RX6, TX6, 14, tyX6, rfl, inX_6, by decide, (zmem 267 (by decide +kernel) (by decide +kernel)), tyX6_ok, nmX6, by decide +kernel, by decide, by decide +kernel, by decide⟩
theorem gf_RX7_99 : zFd RX7 99 6 8 (.array .int) := ⟨RX6, TX6, 14, tyX6, rfl, inX_6, by decide, (zmem 271 (by decide +kernel) (by decide +kernel)), tyX6_ok, nmX6, by decide +kernel, by decide, by decide +kernel, by decide⟩
theorem gf_RX7_106 : zFd RX7 106 6 4 (.object "BarterIsles$Words") := ⟨RX6, TX6, 14, tyX6, rfl, inX_6, by decide, (zmem 257 (by decide +kernel) (by decide +kernel)), tyX6_ok, nmX6, by decide +kernel, by decide, by decide +kernel, by decide⟩
theorem gf_RX7_124 : zFd RX7 124 8 6 (.int) := ⟨RX8, TX8, 9, tyX8, rfl, inX_8, by decide, (zmem 154 (by decide +kernel) (by decide +kernel)), tyX8_ok, nmX8, by decide +kernel, by decide, by decide +kernel, by decide⟩
theorem gf_RX7_127 : zFd RX7 127 6 9 (.array .int) := ⟨RX6, TX6, 14, tyX6, rfl, inX_6, by decide, (zmem 274 (by decide +kernel) (by decide +kernel)), tyX6_ok, nmX6, by decide +kernel, by decide, by decide +kernel, by decide⟩
theorem gf_RX7_133 : zFd RX7 133 6 10 (.array .int) := ⟨RX6, TX6, 14, tyX6, rfl, inX_6, by decide, (zmem 277 (by decide +kernel) (by decide +kernel)), tyX6_ok, nmX6, by decide +kernel, by decide, by decide +kernel, by decide⟩
theorem gf_RX7_136 : zFd RX7 136 6 1 (.int) := ⟨RX6, TX6, 14, tyX6, rfl, inX_6, by decide, (zmem 249 (by decide +kernel) (by decide +kernel)), tyX6_ok, nmX6, by decide +kernel, by decide, by decide +kernel, by decide⟩
theorem gf_RX7_139 : zFd RX7 139 6 11 (.array .int) := ⟨RX6, TX6, 14, tyX6, rfl, inX_6, by decide, (zmem 279 (by decide +kernel) (by decide +kernel)), tyX6_ok, nmX6, by decide +kernel, by decide, by decide +kernel, by decide⟩
theorem gf_RX7_142 : zFd RX7 142 6 12 (.array .int) := ⟨RX6, TX6, 14, tyX6, rfl, inX_6, by decide, (zmem 282 (by decide +kernel) (by decide +kernel)), tyX6_ok, nmX6, by decide +kernel, by decide, by decide +kernel, by decide⟩
theorem gf_RX7_145 : zFd RX7 145 6 13 (.array .int) := ⟨RX6, TX6, 14, tyX6, rfl, inX_6, by decide, (zmem 285 (by decide +kernel) (by decide +kernel)), tyX6_ok, nmX6, by decide +kernel, by decide, by decide +kernel, by decide⟩
theorem gf_RX7_148 : zFd RX7 148 6 3 (.boolean) := ⟨RX6, TX6, 14, tyX6, rfl, inX_6, by decide, (zmem 255 (by decide +kernel) (by decide +kernel)), tyX6_ok, nmX6, by decide +kernel, by decide, by decide +kernel, by decide⟩
theorem gf_RX7_152 : zFd RX7 152 6 2 (.int) := ⟨RX6, TX6, 14, tyX6, rfl, inX_6, by decide, (zmem 253 (by decide +kernel) (by decide +kernel)), tyX6_ok, nmX6, by decide +kernel, by decide, by decide +kernel, by decide⟩
theorem gf_RX7_154 : zFd RX7 154 6 5 (.object "BarterIsles$Law") := ⟨RX6, TX6, 14, tyX6, rfl, inX_6, by decide, (zmem 261 (by decide +kernel) (by decide +kernel)), tyX6_ok, nmX6, by decide +kernel, by decide, by decide +kernel, by decide⟩
theorem gf_RX7_157 : zFd RX7 157 0 4 (.boolean) := ⟨RX0, TX0, 5, tyX0, rfl, inX_0, by decide, (zmem 228 (by decide +kernel) (by decide +kernel)), tyX0_ok, nmX0, by decide +kernel, by decide, by decide +kernel, by decide⟩
theorem gf_RX8_9 : zFd RX8 9 8 0 (.array .byte) := ⟨RX8, TX8, 9, tyX8, rfl, inX_8, by decide, (zmem 143 (by decide +kernel) (by decide +kernel)), tyX8_ok, nmX8, by decide +kernel, by decide, by decide +kernel, by decide⟩
theorem gf_RX8_15 : zFd RX8 15 8 1 (.int) := ⟨RX8, TX8, 9, tyX8, rfl, inX_8, by decide, (zmem 144 (by decide +kernel) (by decide +kernel)), tyX8_ok, nmX8, by decide +kernel, by decide, by decide +kernel, by decide⟩
theorem gf_RX8_19 : zFd RX8 19 8 2 (.int) := ⟨RX8, TX8, 9, tyX8, rfl, inX_8, by decide, (zmem 146 (by decide +kernel) (by decide +kernel)), tyX8_ok, nmX8, by decide +kernel, by decide, by decide +kernel, by decide⟩
theorem gf_RX8_22 : zFd RX8 22 8 3 (.int) := ⟨RX8, TX8, 9, tyX8, rfl, inX_8, by decide, (zmem 147 (by decide +kernel) (by decide +kernel)), tyX8_ok, nmX8, by decide +kernel, by decide, by decide +kernel, by decide⟩
theorem gf_RX8_25 : zFd RX8 25 8 4 (.int) := ⟨RX8, TX8, 9, tyX8, rfl, inX_8, by decide, (zmem 150 (by decide +kernel) (by decide +kernel)), tyX8_ok, nmX8, by decide +kernel, by decide, by decide +kernel, by decide⟩
theorem gf_RX8_28 : zFd RX8 28 8 5 (.int) := ⟨RX8, TX8, 9, tyX8, rfl, inX_8, by decide, (zmem 152 (by decide +kernel) (by decide +kernel)), tyX8_ok, nmX8, by decide +kernel, by decide, by decide +kernel, by decide⟩
theorem gf_RX8_31 : zFd RX8 31 8 6 (.int) := ⟨RX8, TX8, 9, tyX8, rfl, inX_8, by decide, (zmem 153 (by decide +kernel) (by decide +kernel)), tyX8_ok, nmX8, by decide +kernel, by decide, by decide +kernel, by decide⟩
theorem gf_RX8_34 : zFd RX8 34 8 7 (.int) := ⟨RX8, TX8, 9, tyX8, rfl, inX_8, by decide, (zmem 155 (by decide +kernel) (by decide +kernel)), tyX8_ok, nmX8, by decide +kernel, by decide, by decide +kernel, by decide⟩
theorem gf_RX8_37 : zFd RX8 37 8 8 (.int) := ⟨RX8, TX8, 9, tyX8, rfl, inX_8, by decide, (zmem 157 (by decide +kernel) (by decide +kernel)), tyX8_ok, nmX8, by decide +kernel, by decide, by decide +kernel, by decide⟩
theorem gf_RX9_9 : zFd RX9 9 9 0 (.array .byte) := ⟨RX9, TX9, 6, tyX9, rfl, inX_9, by decide, (zmem 191 (by decide +kernel) (by decide +kernel)), tyX9_ok, nmX9, by decide +kernel, by decide, by decide +kernel, by decide⟩
theorem gf_RX9_15 : zFd RX9 15 9 1 (.array .int) := ⟨RX9, TX9, 6, tyX9, rfl, inX_9, by decide, (zmem 192 (by decide +kernel) (by decide +kernel)), tyX9_ok, nmX9, by decide +kernel, by decide, by decide +kernel, by decide⟩
theorem gf_RX9_19 : zFd RX9 19 9 2 (.array .int) := ⟨RX9, TX9, 6, tyX9, rfl, inX_9, by decide, (zmem 196 (by decide +kernel) (by decide +kernel)), tyX9_ok, nmX9, by decide +kernel, by decide, by decide +kernel, by decide⟩
theorem gf_RX9_22 : zFd RX9 22 9 3 (.array .int) := ⟨RX9, TX9, 6, tyX9, rfl, inX_9, by decide, (zmem 197 (by decide +kernel) (by decide +kernel)), tyX9_ok, nmX9, by decide +kernel, by decide, by decide +kernel, by decide⟩
theorem gf_RX9_25 : zFd RX9 25 9 4 (.int) := ⟨RX9, TX9, 6, tyX9, rfl, inX_9, by decide, (zmem 198 (by decide +kernel) (by decide +kernel)), tyX9_ok, nmX9, by decide +kernel, by decide, by decide +kernel, by decide⟩
theorem gf_RX9_29 : zFd RX9 29 9 5 (.int) := ⟨RX9, TX9, 6, tyX9, rfl, inX_9, by decide, (zmem 199 (by decide +kernel) (by decide +kernel)), tyX9_ok, nmX9, by decide +kernel, by decide, by decide +kernel, by decide⟩
theorem gf_RX9_50 : zFd RX9 50 8 4 (.int) := ⟨RX8, TX8, 9, tyX8, rfl, inX_8, by decide, (zmem 151 (by decide +kernel) (by decide +kernel)), tyX8_ok, nmX8, by decide +kernel, by decide, by decide +kernel, by decide⟩
theorem gf_RX10_9 : zFd RX10 9 10 1 (.array .int) := ⟨RX10, TX10, 4, tyX10, rfl, inX_10, by decide, (zmem 338 (by decide +kernel) (by decide +kernel)), tyX10_ok, nmX10, by decide +kernel, by decide, by decide +kernel, by decide⟩
theorem gf_RX10_15 : zFd RX10 15 10 2 (.array .int) := ⟨RX10, TX10, 4, tyX10, rfl, inX_10, by decide, (zmem 343 (by decide +kernel) (by decide +kernel)), tyX10_ok, nmX10, by decide +kernel, by decide, by decide +kernel, by decide⟩
theorem gf_RX10_18 : zFd RX10 18 10 3 (.int) := ⟨RX10, TX10, 4, tyX10, rfl, inX_10, by decide, (zmem 344 (by decide +kernel) (by decide +kernel)), tyX10_ok, nmX10, by decide +kernel, by decide, by decide +kernel, by decide⟩
theorem gf_RX10_22 : zFd RX10 22 10 0 (.object "BarterIsles$Sea") := ⟨RX10, TX10, 4, tyX10, rfl, inX_10, by decide, (zmem 335 (by decide +kernel) (by decide +kernel)), tyX10_ok, nmX10, by decide +kernel, by decide, by decide +kernel, by decide⟩
theorem gf_RX10_38 : zFd RX10 38 6 0 (.int) := ⟨RX6, TX6, 14, tyX6, rfl, inX_6, by decide, (zmem 244 (by decide +kernel) (by decide +kernel)), tyX6_ok, nmX6, by decide +kernel, by decide, by decide +kernel, by decide⟩
theorem gf_RX10_59 : zFd RX10 59 6 4 (.object "BarterIsles$Words") := ⟨RX6, TX6, 14, tyX6, rfl, inX_6, by decide, (zmem 259 (by decide +kernel) (by decide +kernel)), tyX6_ok, nmX6, by decide +kernel, by decide, by decide +kernel, by decide⟩
theorem gf_RX10_63 : zFd RX10 63 9 1 (.array .int) := ⟨RX9, TX9, 6, tyX9, rfl, inX_9, by decide, (zmem 195 (by decide +kernel) (by decide +kernel)), tyX9_ok, nmX9, by decide +kernel, by decide, by decide +kernel, by decide⟩
theorem gf_RX10_72 : zFd RX10 72 6 1 (.int) := ⟨RX6, TX6, 14, tyX6, rfl, inX_6, by decide, (zmem 250 (by decide +kernel) (by decide +kernel)), tyX6_ok, nmX6, by decide +kernel, by decide, by decide +kernel, by decide⟩
theorem gf_RX10_75 : zFd RX10 75 6 12 (.array .int) := ⟨RX6, TX6, 14, tyX6, rfl, inX_6, by decide, (zmem 283 (by decide +kernel) (by decide +kernel)), tyX6_ok, nmX6, by decide +kernel, by decide, by decide +kernel, by decide⟩
theorem gf_RX10_78 : zFd RX10 78 6 13 (.array .int) := ⟨RX6, TX6, 14, tyX6, rfl, inX_6, by decide, (zmem 286 (by decide +kernel) (by decide +kernel)), tyX6_ok, nmX6, by decide +kernel, by decide, by decide +kernel, by decide⟩
theorem gf_RX10_81 : zFd RX10 81 6 11 (.array .int) := ⟨RX6, TX6, 14, tyX6, rfl, inX_6, by decide, (zmem 280 (by decide +kernel) (by decide +kernel)), tyX6_ok, nmX6, by decide +kernel, by decide, by decide +kernel, by decide⟩
theorem gf_RX10_91 : zFd RX10 91 6 6 (.array .int) := ⟨RX6, TX6, 14, tyX6, rfl, inX_6, by decide, (zmem 265 (by decide +kernel) (by decide +kernel)), tyX6_ok, nmX6, by decide +kernel, by decide, by decide +kernel, by decide⟩
theorem gf_RX10_97 : zFd RX10 97 6 7 (.array .int) := ⟨RX6, TX6, 14, tyX6, rfl, inX_6, by decide, (zmem 269 (by decide +kernel) (by decide +kernel)), tyX6_ok, nmX6, by decide +kernel, by decide, by decide +kernel, by decide⟩
theorem gf_RX12_7 : zFd RX12 7 12 3 (.int) := ⟨RX12, TX12, 79, tyX12, rfl, inX_12, by decide, (zmem 1542 (by decide +kernel) (by decide +kernel)), tyX12_ok, nmX12, by decide +kernel, by decide, by decide +kernel, by decide⟩
theorem gf_RX12_13 : zFd RX12 13 12 4 (.int) := ⟨RX12, TX12, 79, tyX12, rfl, inX_12, by decide, (zmem 1543 (by decide +kernel) (by decide +kernel)), tyX12_ok, nmX12, by decide +kernel, by decide, by decide +kernel, by decide⟩
theorem gf_RX12_16 : zFd RX12 16 12 5 (.array .int) := ⟨RX12, TX12, 79, tyX12, rfl, inX_12, by decide, (zmem 1544 (by decide +kernel) (by decide +kernel)), tyX12_ok, nmX12, by decide +kernel, by decide, by decide +kernel, by decide⟩
theorem gf_RX12_20 : zFd RX12 20 12 6 (.array .int) := ⟨RX12, TX12, 79, tyX12, rfl, inX_12, by decide, (zmem 1545 (by decide +kernel) (by decide +kernel)), tyX12_ok, nmX12, by decide +kernel, by decide, by decide +kernel, by decide⟩
theorem gf_RX12_23 : zFd RX12 23 12 7 (.array .int) := ⟨RX12, TX12, 79, tyX12, rfl, inX_12, by decide, (zmem 1546 (by decide +kernel) (by decide +kernel)), tyX12_ok, nmX12, by decide +kernel, by decide, by decide +kernel, by decide⟩
theorem gf_RX12_26 : zFd RX12 26 12 8 (.array .int) := ⟨RX12, TX12, 79, tyX12, rfl, inX_12, by decide, (zmem 1547 (by decide +kernel) (by decide +kernel)), tyX12_ok, nmX12, by decide +kernel, by decide, by decide +kernel, by decide⟩
theorem gf_RX12_29 : zFd RX12 29 12 9 (.array .int) := ⟨RX12, TX12, 79, tyX12, rfl, inX_12, by decide, (zmem 1548 (by decide +kernel) (by decide +kernel)), tyX12_ok, nmX12, by decide +kernel, by decide, by decide +kernel, by decide⟩
theorem gf_RX12_32 : zFd RX12 32 12 10 (.array .int) := ⟨RX12, TX12, 79, tyX12, rfl, inX_12, by decide, (zmem 1549 (by decide +kernel) (by decide +kernel)), tyX12_ok, nmX12, by decide +kernel, by decide, by decide +kernel, by decide⟩
theorem gf_RX12_35 : zFd RX12 35 12 11 (.array .int) := ⟨RX12, TX12, 79, tyX12, rfl, inX_12, by decide, (zmem 1550 (by decide +kernel) (by decide +kernel)), tyX12_ok, nmX12, by decide +kernel, by decide, by decide +kernel, by decide⟩
theorem gf_RX12_38 : zFd RX12 38 12 12 (.array .int) := ⟨RX12, TX12, 79, tyX12, rfl, inX_12, by decide, (zmem 1551 (by decide +kernel) (by decide +kernel)), tyX12_ok, nmX12, by decide +kernel, by decide, by decide +kernel, by decide⟩
theorem gf_RX12_41 : zFd RX12 41 12 13 (.array .int) := ⟨RX12, TX12, 79, tyX12, rfl, inX_12, by decide, (zmem 1552 (by decide +kernel) (by decide +kernel)), tyX12_ok, nmX12, by decide +kernel, by decide, by decide +kernel, by decide⟩
theorem gf_RX12_44 : zFd RX12 44 12 14 (.array .int) := ⟨RX12, TX12, 79, tyX12, rfl, inX_12, by decide, (zmem 1553 (by decide +kernel) (by decide +kernel)), tyX12_ok, nmX12, by decide +kernel, by decide, by decide +kernel, by decide⟩
theorem gf_RX12_47 : zFd RX12 47 12 17 (.int) := ⟨RX12, TX12, 79, tyX12, rfl, inX_12, by decide, (zmem 1556 (by decide +kernel) (by decide +kernel)), tyX12_ok, nmX12, by decide +kernel, by decide, by decide +kernel, by decide⟩
theorem gf_RX12_50 : zFd RX12 50 12 18 (.array .int) := ⟨RX12, TX12, 79, tyX12, rfl, inX_12, by decide, (zmem 1557 (by decide +kernel) (by decide +kernel)), tyX12_ok, nmX12, by decide +kernel, by decide, by decide +kernel, by decide⟩
theorem gf_RX12_53 : zFd RX12 53 12 36 (.array .int) := ⟨RX12, TX12, 79, tyX12, rfl, inX_12, by decide, (zmem 1575 (by decide +kernel) (by decide +kernel)), tyX12_ok, nmX12, by decide +kernel, by decide, by decide +kernel, by decide⟩
theorem gf_RX12_56 : zFd RX12 56 12 37 (.array .int) := ⟨RX12, TX12, 79, tyX12, rfl, inX_12, by decide, (zmem 1576 (by decide +kernel) (by decide +kernel)), tyX12_ok, nmX12, by decide +kernel, by decide, by decide +kernel, by decide⟩
theorem gf_RX12_59 : zFd RX12 59 12 38 (.array .int) := ⟨RX12, TX12, 79, tyX12, rfl, inX_12, by decide, (zmem 1577 (by decide +kernel) (by decide +kernel)), tyX12_ok, nmX12, by decide +kernel, by decide, by decide +kernel, by decide⟩
theorem gf_RX12_62 : zFd RX12 62 12 39 (.array .int) := ⟨RX12, TX12, 79, tyX12, rfl, inX_12, by decide, (zmem 1578 (by decide +kernel) (by decide +kernel)), tyX12_ok, nmX12, by decide +kernel, by decide, by decide +kernel, by decide⟩
theorem gf_RX12_65 : zFd RX12 65 12 40 (.array .int) := ⟨RX12, TX12, 79, tyX12, rfl, inX_12, by decide, (zmem 1579 (by decide +kernel) (by decide +kernel)), tyX12_ok, nmX12, by decide +kernel, by decide, by decide +kernel, by decide⟩
theorem gf_RX12_68 : zFd RX12 68 12 41 (.array .int) := ⟨RX12, TX12, 79, tyX12, rfl, inX_12, by decide, (zmem 1580 (by decide +kernel) (by decide +kernel)), tyX12_ok, nmX12, by decide +kernel, by decide, by decide +kernel, by decide⟩
theorem gf_RX12_71 : zFd RX12 71 12 42 (.array .int) := ⟨RX12, TX12, 79, tyX12, rfl, inX_12, by decide, (zmem 1581 (by decide +kernel) (by decide +kernel)), tyX12_ok, nmX12, by decide +kernel, by decide, by decide +kernel, by decide⟩
theorem gf_RX12_74 : zFd RX12 74 12 43 (.array .int) := ⟨RX12, TX12, 79, tyX12, rfl, inX_12, by decide, (zmem 1582 (by decide +kernel) (by decide +kernel)), tyX12_ok, nmX12, by decide +kernel, by decide, by decide +kernel, by decide⟩
theorem gf_RX12_77 : zFd RX12 77 12 44 (.array .int) := ⟨RX12, TX12, 79, tyX12, rfl, inX_12, by decide, (zmem 1583 (by decide +kernel) (by decide +kernel)), tyX12_ok, nmX12, by decide +kernel, by decide, by decide +kernel, by decide⟩
theorem gf_RX12_80 : zFd RX12 80 12 45 (.array .int) := ⟨RX12, TX12, 79, tyX12, rfl, inX_12, by decide, (zmem 1584 (by decide +kernel) (by decide +kernel)), tyX12_ok, nmX12, by decide +kernel, by decide, by decide +kernel, by decide⟩
theorem gf_RX12_83 : zFd RX12 83 12 46 (.array .boolean) := ⟨RX12, TX12, 79, tyX12, rfl, inX_12, by decide, (zmem 1585 (by decide +kernel) (by decide +kernel)), tyX12_ok, nmX12, by decide +kernel, by decide, by decide +kernel, by decide⟩
theorem gf_RX12_87 : zFd RX12 87 12 47 (.array .int) := ⟨RX12, TX12, 79, tyX12, rfl, inX_12, by decide, (zmem 1586 (by decide +kernel) (by decide +kernel)), tyX12_ok, nmX12, by decide +kernel, by decide, by decide +kernel, by decide⟩
theorem gf_RX12_90 : zFd RX12 90 12 48 (.array .int) := ⟨RX12, TX12, 79, tyX12, rfl, inX_12, by decide, (zmem 1587 (by decide +kernel) (by decide +kernel)), tyX12_ok, nmX12, by decide +kernel, by decide, by decide +kernel, by decide⟩
theorem gf_RX12_93 : zFd RX12 93 12 49 (.array .int) := ⟨RX12, TX12, 79, tyX12, rfl, inX_12, by decide, (zmem 1588 (by decide +kernel) (by decide +kernel)), tyX12_ok, nmX12, by decide +kernel, by decide, by decide +kernel, by decide⟩
theorem gf_RX12_96 : zFd RX12 96 12 51 (.array .int) := ⟨RX12, TX12, 79, tyX12, rfl, inX_12, by decide, (zmem 1590 (by decide +kernel) (by decide +kernel)), tyX12_ok, nmX12, by decide +kernel, by decide, by decide +kernel, by decide⟩
theorem gf_RX12_99 : zFd RX12 99 12 52 (.array .int) := ⟨RX12, TX12, 79, tyX12, rfl, inX_12, by decide, (zmem 1591 (by decide +kernel) (by decide +kernel)), tyX12_ok, nmX12, by decide +kernel, by decide, by decide +kernel, by decide⟩
theorem gf_RX12_102 : zFd RX12 102 12 53 (.array .int) := ⟨RX12, TX12, 79, tyX12, rfl, inX_12, by decide, (zmem 1592 (by decide +kernel) (by decide +kernel)), tyX12_ok, nmX12, by decide +kernel, by decide, by decide +kernel, by decide⟩
theorem gf_RX12_105 : zFd RX12 105 12 54 (.array .int) := ⟨RX12, TX12, 79, tyX12, rfl, inX_12, by decide, (zmem 1593 (by decide +kernel) (by decide +kernel)), tyX12_ok, nmX12, by decide +kernel, by decide, by decide +kernel, by decide⟩
theorem gf_RX12_108 : zFd RX12 108 12 55 (.array .int) := ⟨RX12, TX12, 79, tyX12, rfl, inX_12, by decide, (zmem 1594 (by decide +kernel) (by decide +kernel)), tyX12_ok, nmX12, by decide +kernel, by decide, by decide +kernel, by decide⟩
theorem gf_RX12_111 : zFd RX12 111 12 56 (.array .int) := ⟨RX12, TX12, 79, tyX12, rfl, inX_12, by decide, (zmem 1595 (by decide +kernel) (by decide +kernel)), tyX12_ok, nmX12, by decide +kernel, by decide, by decide +kernel, by decide⟩
theorem gf_RX12_114 : zFd RX12 114 12 57 (.array .int) := ⟨RX12, TX12, 79, tyX12, rfl, inX_12, by decide, (zmem 1596 (by decide +kernel) (by decide +kernel)), tyX12_ok, nmX12, by decide +kernel, by decide, by decide +kernel, by decide⟩
theorem gf_RX12_117 : zFd RX12 117 12 58 (.array .int) := ⟨RX12, TX12, 79, tyX12, rfl, inX_12, by decide, (zmem 1597 (by decide +kernel) (by decide +kernel)), tyX12_ok, nmX12, by decide +kernel, by decide, by decide +kernel, by decide⟩
theorem gf_RX12_120 : zFd RX12 120 12 59 (.array .int) := ⟨RX12, TX12, 79, tyX12, rfl, inX_12, by decide, (zmem 1598 (by decide +kernel) (by decide +kernel)), tyX12_ok, nmX12, by decide +kernel, by decide, by decide +kernel, by decide⟩
theorem gf_RX12_123 : zFd RX12 123 12 61 (.array .int) := ⟨RX12, TX12, 79, tyX12, rfl, inX_12, by decide, (zmem 1600 (by decide +kernel) (by decide +kernel)), tyX12_ok, nmX12, by decide +kernel, by decide, by decide +kernel, by decide⟩
theorem gf_RX12_126 : zFd RX12 126 12 62 (.array .int) := ⟨RX12, TX12, 79, tyX12, rfl, inX_12, by decide, (zmem 1601 (by decide +kernel) (by decide +kernel)), tyX12_ok, nmX12, by decide +kernel, by decide, by decide +kernel, by decide⟩
theorem gf_RX12_129 : zFd RX12 129 12 65 (.array .int) := ⟨RX12, TX12, 79, tyX12, rfl, inX_12, by decide, (zmem 1604 (by decide +kernel) (by decide +kernel)), tyX12_ok, nmX12, by decide +kernel, by decide, by decide +kernel, by decide⟩
theorem gf_RX12_132 : zFd RX12 132 12 66 (.array .int) := ⟨RX12, TX12, 79, tyX12, rfl, inX_12, by decide, (zmem 1605 (by decide +kernel) (by decide +kernel)), tyX12_ok, nmX12, by decide +kernel, by decide, by decide +kernel, by decide⟩
theorem gf_RX12_135 : zFd RX12 135 12 67 (.array .int) := ⟨RX12, TX12, 79, tyX12, rfl, inX_12, by decide, (zmem 1606 (by decide +kernel) (by decide +kernel)), tyX12_ok, nmX12, by decide +kernel, by decide, by decide +kernel, by decide⟩
theorem gf_RX12_138 : zFd RX12 138 12 68 (.array .int) := ⟨RX12, TX12, 79, tyX12, rfl, inX_12, by decide, (zmem 1607 (by decide +kernel) (by decide +kernel)), tyX12_ok, nmX12, by decide +kernel, by decide, by decide +kernel, by decide⟩
theorem gf_RX12_141 : zFd RX12 141 12 69 (.array .int) := ⟨RX12, TX12, 79, tyX12, rfl, inX_12, by decide, (zmem 1608 (by decide +kernel) (by decide +kernel)), tyX12_ok, nmX12, by decide +kernel, by decide, by decide +kernel, by decide⟩
theorem gf_RX12_144 : zFd RX12 144 12 76 (.array .int) := ⟨RX12, TX12, 79, tyX12, rfl, inX_12, by decide, (zmem 1615 (by decide +kernel) (by decide +kernel)), tyX12_ok, nmX12, by decide +kernel, by decide, by decide +kernel, by decide⟩
theorem gf_RX12_147 : zFd RX12 147 12 77 (.array .int) := ⟨RX12, TX12, 79, tyX12, rfl, inX_12, by decide, (zmem 1616 (by decide +kernel) (by decide +kernel)), tyX12_ok, nmX12, by decide +kernel, by decide, by decide +kernel, by decide⟩
theorem gf_RX12_150 : zFd RX12 150 12 78 (.array .int) := ⟨RX12, TX12, 79, tyX12, rfl, inX_12, by decide, (zmem 1617 (by decide +kernel) (by decide +kernel)), tyX12_ok, nmX12, by decide +kernel, by decide, by decide +kernel, by decide⟩
theorem gf_RX12_153 : zFd RX12 153 12 0 (.int) := ⟨RX12, TX12, 79, tyX12, rfl, inX_12, by decide, (zmem 1539 (by decide +kernel) (by decide +kernel)), tyX12_ok, nmX12, by decide +kernel, by decide, by decide +kernel, by decide⟩
theorem gf_RX12_156 : zFd RX12 156 12 15 (.int) := ⟨RX12, TX12, 79, tyX12, rfl, inX_12, by decide, (zmem 1554 (by decide +kernel) (by decide +kernel)), tyX12_ok, nmX12, by decide +kernel, by decide, by decide +kernel, by decide⟩
theorem gf_RX12_163 : zFd RX12 163 12 19 (.int) := ⟨RX12, TX12, 79, tyX12, rfl, inX_12, by decide, (zmem 1558 (by decide +kernel) (by decide +kernel)), tyX12_ok, nmX12, by decide +kernel, by decide, by decide +kernel, by decide⟩
theorem gf_RX12_166 : zFd RX12 166 12 20 (.int) := ⟨RX12, TX12, 79, tyX12, rfl, inX_12, by decide, (zmem 1559 (by decide +kernel) (by decide +kernel)), tyX12_ok, nmX12, by decide +kernel, by decide, by decide +kernel, by decide⟩
theorem gf_RX12_173 : zFd RX12 173 12 22 (.int) := ⟨RX12, TX12, 79, tyX12, rfl, inX_12, by decide, (zmem 1561 (by decide +kernel) (by decide +kernel)), tyX12_ok, nmX12, by decide +kernel, by decide, by decide +kernel, by decide⟩
theorem gf_RX12_176 : zFd RX12 176 12 26 (.long) := ⟨RX12, TX12, 79, tyX12, rfl, inX_12, by decide, (zmem 1565 (by decide +kernel) (by decide +kernel)), tyX12_ok, nmX12, by decide +kernel, by decide, by decide +kernel, by decide⟩
theorem gf_RX12_180 : zFd RX12 180 12 24 (.int) := ⟨RX12, TX12, 79, tyX12, rfl, inX_12, by decide, (zmem 1563 (by decide +kernel) (by decide +kernel)), tyX12_ok, nmX12, by decide +kernel, by decide, by decide +kernel, by decide⟩
theorem gf_RX12_183 : zFd RX12 183 12 25 (.int) := ⟨RX12, TX12, 79, tyX12, rfl, inX_12, by decide, (zmem 1564 (by decide +kernel) (by decide +kernel)), tyX12_ok, nmX12, by decide +kernel, by decide, by decide +kernel, by decide⟩
theorem gf_RX12_186 : zFd RX12 186 12 21 (.int) := ⟨RX12, TX12, 79, tyX12, rfl, inX_12, by decide, (zmem 1560 (by decide +kernel) (by decide +kernel)), tyX12_ok, nmX12, by decide +kernel, by decide, by decide +kernel, by decide⟩
theorem gf_RX12_196 : zFd RX12 196 12 23 (.int) := ⟨RX12, TX12, 79, tyX12, rfl, inX_12, by decide, (zmem 1562 (by decide +kernel) (by decide +kernel)), tyX12_ok, nmX12, by decide +kernel, by decide, by decide +kernel, by decide⟩
theorem gf_RX12_209 : zFd RX12 209 12 16 (.int) := ⟨RX12, TX12, 79, tyX12, rfl, inX_12, by decide, (zmem 1555 (by decide +kernel) (by decide +kernel)), tyX12_ok, nmX12, by decide +kernel, by decide, by decide +kernel, by decide⟩
theorem gf_RX12_222 : zFd RX12 222 12 27 (.int) := ⟨RX12, TX12, 79, tyX12, rfl, inX_12, by decide, (zmem 1566 (by decide +kernel) (by decide +kernel)), tyX12_ok, nmX12, by decide +kernel, by decide, by decide +kernel, by decide⟩
theorem gf_RX12_225 : zFd RX12 225 12 33 (.int) := ⟨RX12, TX12, 79, tyX12, rfl, inX_12, by decide, (zmem 1572 (by decide +kernel) (by decide +kernel)), tyX12_ok, nmX12, by decide +kernel, by decide, by decide +kernel, by decide⟩
theorem gf_RX12_228 : zFd RX12 228 12 34 (.int) := ⟨RX12, TX12, 79, tyX12, rfl, inX_12, by decide, (zmem 1573 (by decide +kernel) (by decide +kernel)), tyX12_ok, nmX12, by decide +kernel, by decide, by decide +kernel, by decide⟩
theorem gf_RX12_244 : zFd RX12 244 12 35 (.int) := ⟨RX12, TX12, 79, tyX12, rfl, inX_12, by decide, (zmem 1574 (by decide +kernel) (by decide +kernel)), tyX12_ok, nmX12, by decide +kernel, by decide, by decide +kernel, by decide⟩
theorem gf_RX12_282 : zFd RX12 282 12 32 (.int) := ⟨RX12, TX12, 79, tyX12, rfl, inX_12, by decide, (zmem 1571 (by decide +kernel) (by decide +kernel)), tyX12_ok, nmX12, by decide +kernel, by decide, by decide +kernel, by decide⟩
theorem gf_RX12_285 : zFd RX12 285 12 28 (.int) := ⟨RX12, TX12, 79, tyX12, rfl, inX_12, by decide, (zmem 1567 (by decide +kernel) (by decide +kernel)), tyX12_ok, nmX12, by decide +kernel, by decide, by decide +kernel, by decide⟩
theorem gf_RX12_297 : zFd RX12 297 12 31 (.int) := ⟨RX12, TX12, 79, tyX12, rfl, inX_12, by decide, (zmem 1570 (by decide +kernel) (by decide +kernel)), tyX12_ok, nmX12, by decide +kernel, by decide, by decide +kernel, by decide⟩
theorem gf_RX12_300 : zFd RX12 300 12 29 (.int) := ⟨RX12, TX12, 79, tyX12, rfl, inX_12, by decide, (zmem 1568 (by decide +kernel) (by decide +kernel)), tyX12_ok, nmX12, by decide +kernel, by decide, by decide +kernel, by decide⟩
theorem gf_RX12_303 : zFd RX12 303 12 30 (.int) := ⟨RX12, TX12, 79, tyX12, rfl, inX_12, by decide, (zmem 1569 (by decide +kernel) (by decide +kernel)), tyX12_ok, nmX12, by decide +kernel, by decide, by decide +kernel, by decide⟩
theorem gf_RX12_319 : zFd RX12 319 12 1 (.int) := ⟨RX12, TX12, 79, tyX12, rfl, inX_12, by decide, (zmem 1540 (by decide +kernel) (by decide +kernel)), tyX12_ok, nmX12, by decide +kernel, by decide, by decide +kernel, by decide⟩
theorem gf_RX12_322 : zFd RX12 322 12 2 (.int) := ⟨RX12, TX12, 79, tyX12, rfl, inX_12, by decide, (zmem 1541 (by decide +kernel) (by decide +kernel)), tyX12_ok, nmX12, by decide +kernel, by decide, by decide +kernel, by decide⟩
theorem gf_RX12_329 : zFd RX12 329 12 50 (.int) := ⟨RX12, TX12, 79, tyX12, rfl, inX_12, by decide, (zmem 1589 (by decide +kernel) (by decide +kernel)), tyX12_ok, nmX12, by decide +kernel, by decide, by decide +kernel, by decide⟩
theorem gf_RX12_332 : zFd RX12 332 12 64 (.int) := ⟨RX12, TX12, 79, tyX12, rfl, inX_12, by decide, (zmem 1603 (by decide +kernel) (by decide +kernel)), tyX12_ok, nmX12, by decide +kernel, by decide, by decide +kernel, by decide⟩
theorem gf_RX12_335 : zFd RX12 335 12 73 (.boolean) := ⟨RX12, TX12, 79, tyX12, rfl, inX_12, by decide, (zmem 1612 (by decide +kernel) (by decide +kernel)), tyX12_ok, nmX12, by decide +kernel, by decide, by decide +kernel, by decide⟩
theorem gf_RX12_415 : zFd RX12 415 12 60 (.int) := ⟨RX12, TX12, 79, tyX12, rfl, inX_12, by decide, (zmem 1599 (by decide +kernel) (by decide +kernel)), tyX12_ok, nmX12, by decide +kernel, by decide, by decide +kernel, by decide⟩
theorem gf_RX12_434 : zFd RX12 434 12 63 (.int) := ⟨RX12, TX12, 79, tyX12, rfl, inX_12, by decide, (zmem 1602 (by decide +kernel) (by decide +kernel)), tyX12_ok, nmX12, by decide +kernel, by decide, by decide +kernel, by decide⟩
theorem gf_RX12_453 : zFd RX12 453 12 70 (.int) := ⟨RX12, TX12, 79, tyX12, rfl, inX_12, by decide, (zmem 1609 (by decide +kernel) (by decide +kernel)), tyX12_ok, nmX12, by decide +kernel, by decide, by decide +kernel, by decide⟩
theorem gf_RX12_456 : zFd RX12 456 12 71 (.int) := ⟨RX12, TX12, 79, tyX12, rfl, inX_12, by decide, (zmem 1610 (by decide +kernel) (by decide +kernel)), tyX12_ok, nmX12, by decide +kernel, by decide, by decide +kernel, by decide⟩
theorem gf_RX12_465 : zFd RX12 465 12 72 (.int) := ⟨RX12, TX12, 79, tyX12, rfl, inX_12, by decide, (zmem 1611 (by decide +kernel) (by decide +kernel)), tyX12_ok, nmX12, by decide +kernel, by decide, by decide +kernel, by decide⟩
theorem gf_RX12_472 : zFd RX12 472 12 74 (.int) := ⟨RX12, TX12, 79, tyX12, rfl, inX_12, by decide, (zmem 1613 (by decide +kernel) (by decide +kernel)), tyX12_ok, nmX12, by decide +kernel, by decide, by decide +kernel, by decide⟩
theorem gf_RX12_475 : zFd RX12 475 12 75 (.int) := ⟨RX12, TX12, 79, tyX12, rfl, inX_12, by decide, (zmem 1614 (by decide +kernel) (by decide +kernel)), tyX12_ok, nmX12, by decide +kernel, by decide, by decide +kernel, by decide⟩
theorem gw_RX11_100 : zFw RX11 100 11 14 .boolean := ⟨gf_RX11_100, fun q h => by cases h; rfl⟩
theorem gw_RX11_104 : zFw RX11 104 11 15 .int := ⟨gf_RX11_104, fun q h => by cases h; rfl⟩
theorem gw_RX11_116 : zFw RX11 116 8 1 .int := ⟨gf_RX11_116, fun q h => by cases h; rfl⟩
theorem gw_RX11_157 : zFw RX11 157 3 1 .int := ⟨gf_RX11_157, fun q h => by cases h; rfl⟩
theorem gw_RX0_21 : zFw RX0 21 0 3 .int := ⟨gf_RX0_21, fun q h => by cases h; rfl⟩
theorem gw_RX0_25 : zFw RX0 25 0 4 .boolean := ⟨gf_RX0_25, fun q h => by cases h; rfl⟩
theorem gw_RX1_15 : zFw RX1 15 1 3 .int := ⟨gf_RX1_15, fun q h => by cases h; rfl⟩
theorem gw_RX2_15 : zFw RX2 15 2 2 .int := ⟨gf_RX2_15, fun q h => by cases h; rfl⟩
theorem gw_RX3_9 : zFw RX3 9 3 0 .int := ⟨gf_RX3_9, fun q h => by cases h; rfl⟩
theorem gw_RX3_15 : zFw RX3 15 3 1 .int := ⟨gf_RX3_15, fun q h => by cases h; rfl⟩
theorem gw_RX4_15 : zFw RX4 15 4 3 .int := ⟨gf_RX4_15, fun q h => by cases h; rfl⟩
theorem gw_RX4_25 : zFw RX4 25 4 6 .int := ⟨gf_RX4_25, fun q h => by cases h; rfl⟩
theorem gw_RX5_24 : zFw RX5 24 5 7 .int := ⟨gf_RX5_24, fun q h => by cases h; rfl⟩
theorem gw_RX5_28 : zFw RX5 28 5 8 .int := ⟨gf_RX5_28, fun q h => by cases h; rfl⟩
theorem gw_RX5_31 : zFw RX5 31 5 9 .boolean := ⟨gf_RX5_31, fun q h => by cases h; rfl⟩
theorem gw_RX5_35 : zFw RX5 35 5 10 .int := ⟨gf_RX5_35, fun q h => by cases h; rfl⟩
theorem gw_RX6_9 : zFw RX6 9 6 0 .int := ⟨gf_RX6_9, fun q h => by cases h; rfl⟩
theorem gw_RX6_15 : zFw RX6 15 6 1 .int := ⟨gf_RX6_15, fun q h => by cases h; rfl⟩
theorem gw_RX6_18 : zFw RX6 18 6 2 .int := ⟨gf_RX6_18, fun q h => by cases h; rfl⟩
theorem gw_RX6_21 : zFw RX6 21 6 3 .boolean := ⟨gf_RX6_21, fun q h => by cases h; rfl⟩
theorem gw_RX7_75 : zFw RX7 75 6 0 .int := ⟨gf_RX7_75, fun q h => by cases h; rfl⟩
theorem gw_RX7_136 : zFw RX7 136 6 1 .int := ⟨gf_RX7_136, fun q h => by cases h; rfl⟩
theorem gw_RX7_148 : zFw RX7 148 6 3 .boolean := ⟨gf_RX7_148, fun q h => by cases h; rfl⟩
theorem gw_RX7_152 : zFw RX7 152 6 2 .int := ⟨gf_RX7_152, fun q h => by cases h; rfl⟩
theorem gw_RX7_157 : zFw RX7 157 0 4 .boolean := ⟨gf_RX7_157, fun q h => by cases h; rfl⟩
theorem gw_RX8_15 : zFw RX8 15 8 1 .int := ⟨gf_RX8_15, fun q h => by cases h; rfl⟩
theorem gw_RX8_19 : zFw RX8 19 8 2 .int := ⟨gf_RX8_19, fun q h => by cases h; rfl⟩
theorem gw_RX8_22 : zFw RX8 22 8 3 .int := ⟨gf_RX8_22, fun q h => by cases h; rfl⟩
theorem gw_RX8_25 : zFw RX8 25 8 4 .int := ⟨gf_RX8_25, fun q h => by cases h; rfl⟩
theorem gw_RX8_28 : zFw RX8 28 8 5 .int := ⟨gf_RX8_28, fun q h => by cases h; rfl⟩
theorem gw_RX8_31 : zFw RX8 31 8 6 .int := ⟨gf_RX8_31, fun q h => by cases h; rfl⟩
theorem gw_RX8_34 : zFw RX8 34 8 7 .int := ⟨gf_RX8_34, fun q h => by cases h; rfl⟩
theorem gw_RX8_37 : zFw RX8 37 8 8 .int := ⟨gf_RX8_37, fun q h => by cases h; rfl⟩
theorem gw_RX9_25 : zFw RX9 25 9 4 .int := ⟨gf_RX9_25, fun q h => by cases h; rfl⟩
theorem gw_RX9_29 : zFw RX9 29 9 5 .int := ⟨gf_RX9_29, fun q h => by cases h; rfl⟩
theorem gw_RX10_18 : zFw RX10 18 10 3 .int := ⟨gf_RX10_18, fun q h => by cases h; rfl⟩
theorem gw_RX12_7 : zFw RX12 7 12 3 .int := ⟨gf_RX12_7, fun q h => by cases h; rfl⟩
theorem gw_RX12_13 : zFw RX12 13 12 4 .int := ⟨gf_RX12_13, fun q h => by cases h; rfl⟩
theorem gw_RX12_47 : zFw RX12 47 12 17 .int := ⟨gf_RX12_47, fun q h => by cases h; rfl⟩
theorem gw_RX12_153 : zFw RX12 153 12 0 .int := ⟨gf_RX12_153, fun q h => by cases h; rfl⟩
theorem gw_RX12_156 : zFw RX12 156 12 15 .int := ⟨gf_RX12_156, fun q h => by cases h; rfl⟩
theorem gw_RX12_163 : zFw RX12 163 12 19 .int := ⟨gf_RX12_163, fun q h => by cases h; rfl⟩
theorem gw_RX12_166 : zFw RX12 166 12 20 .int := ⟨gf_RX12_166, fun q h => by cases h; rfl⟩
theorem gw_RX12_173 : zFw RX12 173 12 22 .int := ⟨gf_RX12_173, fun q h => by cases h; rfl⟩
theorem gw_RX12_176 : zFw RX12 176 12 26 .long := ⟨gf_RX12_176, fun q h => by cases h; rfl⟩
theorem gw_RX12_180 : zFw RX12 180 12 24 .int := ⟨gf_RX12_180, fun q h => by cases h; rfl⟩
theorem gw_RX12_183 : zFw RX12 183 12 25 .int := ⟨gf_RX12_183, fun q h => by cases h; rfl⟩
theorem gw_RX12_186 : zFw RX12 186 12 21 .int := ⟨gf_RX12_186, fun q h => by cases h; rfl⟩
theorem gw_RX12_196 : zFw RX12 196 12 23 .int := ⟨gf_RX12_196, fun q h => by cases h; rfl⟩
theorem gw_RX12_209 : zFw RX12 209 12 16 .int := ⟨gf_RX12_209, fun q h => by cases h; rfl⟩
theorem gw_RX12_222 : zFw RX12 222 12 27 .int := ⟨gf_RX12_222, fun q h => by cases h; rfl⟩
theorem gw_RX12_225 : zFw RX12 225 12 33 .int := ⟨gf_RX12_225, fun q h => by cases h; rfl⟩
theorem gw_RX12_228 : zFw RX12 228 12 34 .int := ⟨gf_RX12_228, fun q h => by cases h; rfl⟩
theorem gw_RX12_244 : zFw RX12 244 12 35 .int := ⟨gf_RX12_244, fun q h => by cases h; rfl⟩
theorem gw_RX12_282 : zFw RX12 282 12 32 .int := ⟨gf_RX12_282, fun q h => by cases h; rfl⟩
theorem gw_RX12_285 : zFw RX12 285 12 28 .int := ⟨gf_RX12_285, fun q h => by cases h; rfl⟩
theorem gw_RX12_297 : zFw RX12 297 12 31 .int := ⟨gf_RX12_297, fun q h => by cases h; rfl⟩
theorem gw_RX12_300 : zFw RX12 300 12 29 .int := ⟨gf_RX12_300, fun q h => by cases h; rfl⟩
theorem gw_RX12_303 : zFw RX12 303 12 30 .int := ⟨gf_RX12_303, fun q h => by cases h; rfl⟩
theorem gw_RX12_319 : zFw RX12 319 12 1 .int := ⟨gf_RX12_319, fun q h => by cases h; rfl⟩
theorem gw_RX12_322 : zFw RX12 322 12 2 .int := ⟨gf_RX12_322, fun q h => by cases h; rfl⟩
theorem gw_RX12_329 : zFw RX12 329 12 50 .int := ⟨gf_RX12_329, fun q h => by cases h; rfl⟩
theorem gw_RX12_332 : zFw RX12 332 12 64 .int := ⟨gf_RX12_332, fun q h => by cases h; rfl⟩
theorem gw_RX12_335 : zFw RX12 335 12 73 .boolean := ⟨gf_RX12_335, fun q h => by cases h; rfl⟩
theorem gw_RX12_415 : zFw RX12 415 12 60 .int := ⟨gf_RX12_415, fun q h => by cases h; rfl⟩
theorem gw_RX12_434 : zFw RX12 434 12 63 .int := ⟨gf_RX12_434, fun q h => by cases h; rfl⟩
theorem gw_RX12_453 : zFw RX12 453 12 70 .int := ⟨gf_RX12_453, fun q h => by cases h; rfl⟩
