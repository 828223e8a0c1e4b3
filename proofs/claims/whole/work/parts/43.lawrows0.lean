/-! the law, by program (mklaw.py) -/
abbrev Y_L_law : zY := (x, code, 7, ret, 2100, [])
theorem cl_RL_106 : zCl RL 106 11 5 Y_X11_feed := ⟨⟨⟨by decide +kernel, by decide +kernel⟩, by decide, (zmem 552 (by decide +kernel) (by decide +kernel)), (zmem 102 (by decide +kernel) (by decide +kernel))⟩, (zmem 549 (by decide +kernel) (by decide +kernel)), (zmem 550 (by decide +kernel) (by decide +kernel)), (zmem 551 (by decide +kernel) (by decide +kernel)), ⟨_, rfl, rfl⟩, by decide, by decide +kernel⟩
theorem cl_RL_110 : zCl RL 110 12 5 Y_X12_feed := ⟨⟨⟨by decide +kernel, by decide +kernel⟩, by decide, (zmem 1785 (by decide +kernel) (by decide +kernel)), (zmem 114 (by decide +kernel) (by decide +kernel))⟩, (zmem 1782 (by decide +kernel) (by decide +kernel)), (zmem 1783 (by decide +kernel) (by decide +kernel)), (zmem 1784 (by decide +kernel) (by decide +kernel)), ⟨_, rfl, rfl⟩, by decide, by decide +kernel⟩
theorem cl_RL_111 : zCh RL 111 3 Y_L_sea := ⟨⟨by decide +kernel, by decide +kernel⟩, by decide, (zmem 693 (by decide +kernel) (by decide +kernel)), (zmem 101 (by decide +kernel) (by decide +kernel)), (zmem 691 (by decide +kernel) (by decide +kernel)), (zmem 692 (by decide +kernel) (by decide +kernel)), by decide +kernel⟩
theorem cl_RL_116 : zCl RL 116 12 1 Y_X12_sea := ⟨⟨⟨by decide +kernel, by decide +kernel⟩, by decide, (zmem 1793 (by decide +kernel) (by decide +kernel)), (zmem 114 (by decide +kernel) (by decide +kernel))⟩, (zmem 1790 (by decide +kernel) (by decide +kernel)), (zmem 1791 (by decide +kernel) (by decide +kernel)), (zmem 1792 (by decide +kernel) (by decide +kernel)), ⟨_, rfl, rfl⟩, by decide, by decide +kernel⟩
theorem cl_RL_117 : zCl RL 117 12 0 Y_X12_thrown := ⟨⟨⟨by decide +kernel, by decide +kernel⟩, by decide, (zmem 1781 (by decide +kernel) (by decide +kernel)), (zmem 114 (by decide +kernel) (by decide +kernel))⟩, (zmem 1778 (by decide +kernel) (by decide +kernel)), (zmem 1779 (by decide +kernel) (by decide +kernel)), (zmem 1780 (by decide +kernel) (by decide +kernel)), ⟨_, rfl, rfl⟩, by decide, by decide +kernel⟩
theorem cl_RL_121 : zCl RL 121 11 0 Y_X11_fault := ⟨⟨⟨by decide +kernel, by decide +kernel⟩, by decide, (zmem 564 (by decide +kernel) (by decide +kernel)), (zmem 102 (by decide +kernel) (by decide +kernel))⟩, (zmem 561 (by decide +kernel) (by decide +kernel)), (zmem 562 (by decide +kernel) (by decide +kernel)), (zmem 563 (by decide +kernel) (by decide +kernel)), ⟨_, rfl, rfl⟩, by decide, by decide +kernel⟩
theorem cl_RL_124 : zCl RL 124 12 0 Y_X12_fault := ⟨⟨⟨by decide +kernel, by decide +kernel⟩, by decide, (zmem 1916 (by decide +kernel) (by decide +kernel)), (zmem 114 (by decide +kernel) (by decide +kernel))⟩, (zmem 1913 (by decide +kernel) (by decide +kernel)), (zmem 1914 (by decide +kernel) (by decide +kernel)), (zmem 1915 (by decide +kernel) (by decide +kernel)), ⟨_, rfl, rfl⟩, by decide, by decide +kernel⟩
theorem cl_RL_125 : zCh RL 125 3 Y_L_count := ⟨⟨by decide +kernel, by decide +kernel⟩, by decide, (zmem 1067 (by decide +kernel) (by decide +kernel)), (zmem 101 (by decide +kernel) (by decide +kernel)), (zmem 1065 (by decide +kernel) (by decide +kernel)), (zmem 1066 (by decide +kernel) (by decide +kernel)), by decide +kernel⟩
theorem cl_RL_127 : zCl RL 127 12 1 Y_X12_count := ⟨⟨⟨by decide +kernel, by decide +kernel⟩, by decide, (zmem 1924 (by decide +kernel) (by decide +kernel)), (zmem 114 (by decide +kernel) (by decide +kernel))⟩, (zmem 1921 (by decide +kernel) (by decide +kernel)), (zmem 1922 (by decide +kernel) (by decide +kernel)), (zmem 1923 (by decide +kernel) (by decide +kernel)), ⟨_, rfl, rfl⟩, by decide, by decide +kernel⟩
theorem cl_RL_128 : zCh RL 128 4 Y_L_name := ⟨⟨by decide +kernel, by decide +kernel⟩, by decide, (zmem 1095 (by decide +kernel) (by decide +kernel)), (zmem 101 (by decide +kernel) (by decide +kernel)), (zmem 1093 (by decide +kernel) (by decide +kernel)), (zmem 1094 (by decide +kernel) (by decide +kernel)), by decide +kernel⟩
theorem cl_RL_131 : zCl RL 131 12 2 Y_X12_name := ⟨⟨⟨by decide +kernel, by decide +kernel⟩, by decide, (zmem 1935 (by decide +kernel) (by decide +kernel)), (zmem 114 (by decide +kernel) (by decide +kernel))⟩, (zmem 1932 (by decide +kernel) (by decide +kernel)), (zmem 1933 (by decide +kernel) (by decide +kernel)), (zmem 1934 (by decide +kernel) (by decide +kernel)), ⟨_, rfl, rfl⟩, by decide, by decide +kernel⟩
theorem cl_RL_132 : zCh RL 132 4 Y_L_letter := ⟨⟨by decide +kernel, by decide +kernel⟩, by decide, (zmem 1112 (by decide +kernel) (by decide +kernel)), (zmem 101 (by decide +kernel) (by decide +kernel)), (zmem 1110 (by decide +kernel) (by decide +kernel)), (zmem 1111 (by decide +kernel) (by decide +kernel)), by decide +kernel⟩
theorem cl_RL_134 : zCl RL 134 12 2 Y_X12_letter := ⟨⟨⟨by decide +kernel, by decide +kernel⟩, by decide, (zmem 1951 (by decide +kernel) (by decide +kernel)), (zmem 114 (by decide +kernel) (by decide +kernel))⟩, (zmem 1948 (by decide +kernel) (by decide +kernel)), (zmem 1949 (by decide +kernel) (by decide +kernel)), (zmem 1950 (by decide +kernel) (by decide +kernel)), ⟨_, rfl, rfl⟩, by decide, by decide +kernel⟩
theorem cl_RL_135 : zCh RL 135 3 Y_L_has := ⟨⟨by decide +kernel, by decide +kernel⟩, by decide, (zmem 1124 (by decide +kernel) (by decide +kernel)), (zmem 101 (by decide +kernel) (by decide +kernel)), (zmem 1122 (by decide +kernel) (by decide +kernel)), (zmem 1123 (by decide +kernel) (by decide +kernel)), by decide +kernel⟩
theorem cl_RL_137 : zCl RL 137 12 1 Y_X12_has := ⟨⟨⟨by decide +kernel, by decide +kernel⟩, by decide, (zmem 1955 (by decide +kernel) (by decide +kernel)), (zmem 114 (by decide +kernel) (by decide +kernel))⟩, (zmem 1952 (by decide +kernel) (by decide +kernel)), (zmem 1953 (by decide +kernel) (by decide +kernel)), (zmem 1954 (by decide +kernel) (by decide +kernel)), ⟨_, rfl, rfl⟩, by decide, by decide +kernel⟩
theorem cl_RL_138 : zCh RL 138 4 Y_L_debt := ⟨⟨by decide +kernel, by decide +kernel⟩, by decide, (zmem 1136 (by decide +kernel) (by decide +kernel)), (zmem 101 (by decide +kernel) (by decide +kernel)), (zmem 1134 (by decide +kernel) (by decide +kernel)), (zmem 1135 (by decide +kernel) (by decide +kernel)), by decide +kernel⟩
theorem cl_RL_140 : zCl RL 140 12 2 Y_X12_debt := ⟨⟨⟨by decide +kernel, by decide +kernel⟩, by decide, (zmem 1959 (by decide +kernel) (by decide +kernel)), (zmem 114 (by decide +kernel) (by decide +kernel))⟩, (zmem 1956 (by decide +kernel) (by decide +kernel)), (zmem 1957 (by decide +kernel) (by decide +kernel)), (zmem 1958 (by decide +kernel) (by decide +kernel)), ⟨_, rfl, rfl⟩, by decide, by decide +kernel⟩
theorem cl_RL_141 : zCh RL 141 4 Y_L_may := ⟨⟨by decide +kernel, by decide +kernel⟩, by decide, (zmem 1152 (by decide +kernel) (by decide +kernel)), (zmem 101 (by decide +kernel) (by decide +kernel)), (zmem 1150 (by decide +kernel) (by decide +kernel)), (zmem 1151 (by decide +kernel) (by decide +kernel)), by decide +kernel⟩
theorem cl_RL_143 : zCl RL 143 12 2 Y_X12_may := ⟨⟨⟨by decide +kernel, by decide +kernel⟩, by decide, (zmem 1967 (by decide +kernel) (by decide +kernel)), (zmem 114 (by decide +kernel) (by decide +kernel))⟩, (zmem 1964 (by decide +kernel) (by decide +kernel)), (zmem 1965 (by decide +kernel) (by decide +kernel)), (zmem 1966 (by decide +kernel) (by decide +kernel)), ⟨_, rfl, rfl⟩, by decide, by decide +kernel⟩
theorem cl_RL_144 : zCh RL 144 4 Y_L_swap := ⟨⟨by decide +kernel, by decide +kernel⟩, by decide, (zmem 1160 (by decide +kernel) (by decide +kernel)), (zmem 101 (by decide +kernel) (by decide +kernel)), (zmem 1158 (by decide +kernel) (by decide +kernel)), (zmem 1159 (by decide +kernel) (by decide +kernel)), by decide +kernel⟩
theorem cl_RL_146 : zCl RL 146 12 2 Y_X12_swap := ⟨⟨⟨by decide +kernel, by decide +kernel⟩, by decide, (zmem 1993 (by decide +kernel) (by decide +kernel)), (zmem 114 (by decide +kernel) (by decide +kernel))⟩, (zmem 1990 (by decide +kernel) (by decide +kernel)), (zmem 1991 (by decide +kernel) (by decide +kernel)), (zmem 1992 (by decide +kernel) (by decide +kernel)), ⟨_, rfl, rfl⟩, by decide, by decide +kernel⟩
theorem cl_RL_147 : zCl RL 147 11 0 Y_X11_year := ⟨⟨⟨by decide +kernel, by decide +kernel⟩, by decide, (zmem 568 (by decide +kernel) (by decide +kernel)), (zmem 102 (by decide +kernel) (by decide +kernel))⟩, (zmem 565 (by decide +kernel) (by decide +kernel)), (zmem 566 (by decide +kernel) (by decide +kernel)), (zmem 567 (by decide +kernel) (by decide +kernel)), ⟨_, rfl, rfl⟩, by decide, by decide +kernel⟩
theorem cl_RL_150 : zCl RL 150 12 0 Y_X12_year := ⟨⟨⟨by decide +kernel, by decide +kernel⟩, by decide, (zmem 2013 (by decide +kernel) (by decide +kernel)), (zmem 114 (by decide +kernel) (by decide +kernel))⟩, (zmem 2010 (by decide +kernel) (by decide +kernel)), (zmem 2011 (by decide +kernel) (by decide +kernel)), (zmem 2012 (by decide +kernel) (by decide +kernel)), ⟨_, rfl, rfl⟩, by decide, by decide +kernel⟩
theorem cl_RL_151 : zCh RL 151 4 Y_L_forgive := ⟨⟨by decide +kernel, by decide +kernel⟩, by decide, (zmem 1168 (by decide +kernel) (by decide +kernel)), (zmem 101 (by decide +kernel) (by decide +kernel)), (zmem 1166 (by decide +kernel) (by decide +kernel)), (zmem 1167 (by decide +kernel) (by decide +kernel)), by decide +kernel⟩
theorem cl_RL_153 : zCl RL 153 12 2 Y_X12_forgive := ⟨⟨⟨by decide +kernel, by decide +kernel⟩, by decide, (zmem 2021 (by decide +kernel) (by decide +kernel)), (zmem 114 (by decide +kernel) (by decide +kernel))⟩, (zmem 2018 (by decide +kernel) (by decide +kernel)), (zmem 2019 (by decide +kernel) (by decide +kernel)), (zmem 2020 (by decide +kernel) (by decide +kernel)), ⟨_, rfl, rfl⟩, by decide, by decide +kernel⟩
theorem cl_RL_154 : zCl RL 154 11 0 Y_X11_undo := ⟨⟨⟨by decide +kernel, by decide +kernel⟩, by decide, (zmem 631 (by decide +kernel) (by decide +kernel)), (zmem 102 (by decide +kernel) (by decide +kernel))⟩, (zmem 628 (by decide +kernel) (by decide +kernel)), (zmem 629 (by decide +kernel) (by decide +kernel)), (zmem 630 (by decide +kernel) (by decide +kernel)), ⟨_, rfl, rfl⟩, by decide, by decide +kernel⟩
theorem cl_RL_157 : zCl RL 157 12 0 Y_X12_undo := ⟨⟨⟨by decide +kernel, by decide +kernel⟩, by decide, (zmem 1920 (by decide +kernel) (by decide +kernel)), (zmem 114 (by decide +kernel) (by decide +kernel))⟩, (zmem 1917 (by decide +kernel) (by decide +kernel)), (zmem 1918 (by decide +kernel) (by decide +kernel)), (zmem 1919 (by decide +kernel) (by decide +kernel)), ⟨_, rfl, rfl⟩, by decide, by decide +kernel⟩
theorem cl_RL_158 : zCh RL 158 5 Y_L_prefers := ⟨⟨by decide +kernel, by decide +kernel⟩, by decide, (zmem 1176 (by decide +kernel) (by decide +kernel)), (zmem 101 (by decide +kernel) (by decide +kernel)), (zmem 1174 (by decide +kernel) (by decide +kernel)), (zmem 1175 (by decide +kernel) (by decide +kernel)), by decide +kernel⟩
theorem cl_RL_161 : zCl RL 161 12 3 Y_X12_prefers := ⟨⟨⟨by decide +kernel, by decide +kernel⟩, by decide, (zmem 2025 (by decide +kernel) (by decide +kernel)), (zmem 114 (by decide +kernel) (by decide +kernel))⟩, (zmem 2022 (by decide +kernel) (by decide +kernel)), (zmem 2023 (by decide +kernel) (by decide +kernel)), (zmem 2024 (by decide +kernel) (by decide +kernel)), ⟨_, rfl, rfl⟩, by decide, by decide +kernel⟩
theorem cl_RL_162 : zCh RL 162 3 Y_L_glad := ⟨⟨by decide +kernel, by decide +kernel⟩, by decide, (zmem 1184 (by decide +kernel) (by decide +kernel)), (zmem 101 (by decide +kernel) (by decide +kernel)), (zmem 1182 (by decide +kernel) (by decide +kernel)), (zmem 1183 (by decide +kernel) (by decide +kernel)), by decide +kernel⟩
theorem cl_RL_164 : zCl RL 164 12 1 Y_X12_glad := ⟨⟨⟨by decide +kernel, by decide +kernel⟩, by decide, (zmem 2037 (by decide +kernel) (by decide +kernel)), (zmem 114 (by decide +kernel) (by decide +kernel))⟩, (zmem 2034 (by decide +kernel) (by decide +kernel)), (zmem 2035 (by decide +kernel) (by decide +kernel)), (zmem 2036 (by decide +kernel) (by decide +kernel)), ⟨_, rfl, rfl⟩, by decide, by decide +kernel⟩
theorem cl_RL_165 : zCh RL 165 3 Y_L_round := ⟨⟨by decide +kernel, by decide +kernel⟩, by decide, (zmem 1203 (by decide +kernel) (by decide +kernel)), (zmem 101 (by decide +kernel) (by decide +kernel)), (zmem 1201 (by decide +kernel) (by decide +kernel)), (zmem 1202 (by decide +kernel) (by decide +kernel)), by decide +kernel⟩
theorem cl_RL_167 : zCl RL 167 12 1 Y_X12_round := ⟨⟨⟨by decide +kernel, by decide +kernel⟩, by decide, (zmem 2041 (by decide +kernel) (by decide +kernel)), (zmem 114 (by decide +kernel) (by decide +kernel))⟩, (zmem 2038 (by decide +kernel) (by decide +kernel)), (zmem 2039 (by decide +kernel) (by decide +kernel)), (zmem 2040 (by decide +kernel) (by decide +kernel)), ⟨_, rfl, rfl⟩, by decide, by decide +kernel⟩
theorem cl_RL_168 : zCl RL 168 11 0 Y_X11_leave := ⟨⟨⟨by decide +kernel, by decide +kernel⟩, by decide, (zmem 645 (by decide +kernel) (by decide +kernel)), (zmem 102 (by decide +kernel) (by decide +kernel))⟩, (zmem 642 (by decide +kernel) (by decide +kernel)), (zmem 643 (by decide +kernel) (by decide +kernel)), (zmem 644 (by decide +kernel) (by decide +kernel)), ⟨_, rfl, rfl⟩, by decide, by decide +kernel⟩
theorem cl_RL_171 : zCl RL 171 12 0 Y_X12_leave := ⟨⟨⟨by decide +kernel, by decide +kernel⟩, by decide, (zmem 2049 (by decide +kernel) (by decide +kernel)), (zmem 114 (by decide +kernel) (by decide +kernel))⟩, (zmem 2046 (by decide +kernel) (by decide +kernel)), (zmem 2047 (by decide +kernel) (by decide +kernel)), (zmem 2048 (by decide +kernel) (by decide +kernel)), ⟨_, rfl, rfl⟩, by decide, by decide +kernel⟩
theorem cl_RL_172 : zCh RL 172 4 Y_L_swaps := ⟨⟨by decide +kernel, by decide +kernel⟩, by decide, (zmem 1231 (by decide +kernel) (by decide +kernel)), (zmem 101 (by decide +kernel) (by decide +kernel)), (zmem 1229 (by decide +kernel) (by decide +kernel)), (zmem 1230 (by decide +kernel) (by decide +kernel)), by decide +kernel⟩
theorem cl_RL_174 : zCl RL 174 12 2 Y_X12_swaps := ⟨⟨⟨by decide +kernel, by decide +kernel⟩, by decide, (zmem 2056 (by decide +kernel) (by decide +kernel)), (zmem 114 (by decide +kernel) (by decide +kernel))⟩, (zmem 2053 (by decide +kernel) (by decide +kernel)), (zmem 2054 (by decide +kernel) (by decide +kernel)), (zmem 2055 (by decide +kernel) (by decide +kernel)), ⟨_, rfl, rfl⟩, by decide, by decide +kernel⟩
theorem cl_RL_175 : zCh RL 175 5 Y_L_ship := ⟨⟨by decide +kernel, by decide +kernel⟩, by decide, (zmem 1294 (by decide +kernel) (by decide +kernel)), (zmem 101 (by decide +kernel) (by decide +kernel)), (zmem 1292 (by decide +kernel) (by decide +kernel)), (zmem 1293 (by decide +kernel) (by decide +kernel)), by decide +kernel⟩
theorem cl_RL_177 : zCl RL 177 12 3 Y_X12_ship := ⟨⟨⟨by decide +kernel, by decide +kernel⟩, by decide, (zmem 2080 (by decide +kernel) (by decide +kernel)), (zmem 114 (by decide +kernel) (by decide +kernel))⟩, (zmem 2077 (by decide +kernel) (by decide +kernel)), (zmem 2078 (by decide +kernel) (by decide +kernel)), (zmem 2079 (by decide +kernel) (by decide +kernel)), ⟨_, rfl, rfl⟩, by decide, by decide +kernel⟩
theorem cl_RL_178 : zCh RL 178 5 Y_L_joined := ⟨⟨by decide +kernel, by decide +kernel⟩, by decide, (zmem 1318 (by decide +kernel) (by decide +kernel)), (zmem 101 (by decide +kernel) (by decide +kernel)), (zmem 1316 (by decide +kernel) (by decide +kernel)), (zmem 1317 (by decide +kernel) (by decide +kernel)), by decide +kernel⟩
theorem cl_RL_180 : zCl RL 180 12 3 Y_X12_joined := ⟨⟨⟨by decide +kernel, by decide +kernel⟩, by decide, (zmem 2084 (by decide +kernel) (by decide +kernel)), (zmem 114 (by decide +kernel) (by decide +kernel))⟩, (zmem 2081 (by decide +kernel) (by decide +kernel)), (zmem 2082 (by decide +kernel) (by decide +kernel)), (zmem 2083 (by decide +kernel) (by decide +kernel)), ⟨_, rfl, rfl⟩, by decide, by decide +kernel⟩
theorem cl_RL_181 : zCh RL 181 4 Y_L_inside := ⟨⟨by decide +kernel, by decide +kernel⟩, by decide, (zmem 1337 (by decide +kernel) (by decide +kernel)), (zmem 101 (by decide +kernel) (by decide +kernel)), (zmem 1335 (by decide +kernel) (by decide +kernel)), (zmem 1336 (by decide +kernel) (by decide +kernel)), by decide +kernel⟩
theorem cl_RL_183 : zCl RL 183 12 2 Y_X12_inside := ⟨⟨⟨by decide +kernel, by decide +kernel⟩, by decide, (zmem 2092 (by decide +kernel) (by decide +kernel)), (zmem 114 (by decide +kernel) (by decide +kernel))⟩, (zmem 2089 (by decide +kernel) (by decide +kernel)), (zmem 2090 (by decide +kernel) (by decide +kernel)), (zmem 2091 (by decide +kernel) (by decide +kernel)), ⟨_, rfl, rfl⟩, by decide, by decide +kernel⟩
theorem cl_RL_184 : zCh RL 184 4 Y_L_shortest := ⟨⟨by decide +kernel, by decide +kernel⟩, by decide, (zmem 1348 (by decide +kernel) (by decide +kernel)), (zmem 101 (by decide +kernel) (by decide +kernel)), (zmem 1346 (by decide +kernel) (by decide +kernel)), (zmem 1347 (by decide +kernel) (by decide +kernel)), by decide +kernel⟩
theorem cl_RL_186 : zCl RL 186 12 2 Y_X12_shortest := ⟨⟨⟨by decide +kernel, by decide +kernel⟩, by decide, (zmem 2100 (by decide +kernel) (by decide +kernel)), (zmem 114 (by decide +kernel) (by decide +kernel))⟩, (zmem 2097 (by decide +kernel) (by decide +kernel)), (zmem 2098 (by decide +kernel) (by decide +kernel)), (zmem 2099 (by decide +kernel) (by decide +kernel)), ⟨_, rfl, rfl⟩, by decide, by decide +kernel⟩
theorem cl_RL_187 : zCh RL 187 5 Y_L_worn := ⟨⟨by decide +kernel, by decide +kernel⟩, by decide, (zmem 1377 (by decide +kernel) (by decide +kernel)), (zmem 101 (by decide +kernel) (by decide +kernel)), (zmem 1375 (by decide +kernel) (by decide +kernel)), (zmem 1376 (by decide +kernel) (by decide +kernel)), by decide +kernel⟩
theorem cl_RL_189 : zCl RL 189 12 3 Y_X12_worn := ⟨⟨⟨by decide +kernel, by decide +kernel⟩, by decide, (zmem 2112 (by decide +kernel) (by decide +kernel)), (zmem 114 (by decide +kernel) (by decide +kernel))⟩, (zmem 2109 (by decide +kernel) (by decide +kernel)), (zmem 2110 (by decide +kernel) (by decide +kernel)), (zmem 2111 (by decide +kernel) (by decide +kernel)), ⟨_, rfl, rfl⟩, by decide, by decide +kernel⟩
theorem cl_RL_190 : zCh RL 190 3 Y_L_tide := ⟨⟨by decide +kernel, by decide +kernel⟩, by decide, (zmem 1398 (by decide +kernel) (by decide +kernel)), (zmem 101 (by decide +kernel) (by decide +kernel)), (zmem 1396 (by decide +kernel) (by decide +kernel)), (zmem 1397 (by decide +kernel) (by decide +kernel)), by decide +kernel⟩
theorem cl_RL_192 : zCl RL 192 12 1 Y_X12_tide := ⟨⟨⟨by decide +kernel, by decide +kernel⟩, by decide, (zmem 2120 (by decide +kernel) (by decide +kernel)), (zmem 114 (by decide +kernel) (by decide +kernel))⟩, (zmem 2117 (by decide +kernel) (by decide +kernel)), (zmem 2118 (by decide +kernel) (by decide +kernel)), (zmem 2119 (by decide +kernel) (by decide +kernel)), ⟨_, rfl, rfl⟩, by decide, by decide +kernel⟩
theorem cl_RL_193 : zCh RL 193 4 Y_L_lies := ⟨⟨by decide +kernel, by decide +kernel⟩, by decide, (zmem 1411 (by decide +kernel) (by decide +kernel)), (zmem 101 (by decide +kernel) (by decide +kernel)), (zmem 1409 (by decide +kernel) (by decide +kernel)), (zmem 1410 (by decide +kernel) (by decide +kernel)), by decide +kernel⟩
theorem cl_RL_195 : zCl RL 195 12 2 Y_X12_lies := ⟨⟨⟨by decide +kernel, by decide +kernel⟩, by decide, (zmem 2128 (by decide +kernel) (by decide +kernel)), (zmem 114 (by decide +kernel) (by decide +kernel))⟩, (zmem 2125 (by decide +kernel) (by decide +kernel)), (zmem 2126 (by decide +kernel) (by decide +kernel)), (zmem 2127 (by decide +kernel) (by decide +kernel)), ⟨_, rfl, rfl⟩, by decide, by decide +kernel⟩
theorem cl_RL_196 : zCh RL 196 4 Y_L_see := ⟨⟨by decide +kernel, by decide +kernel⟩, by decide, (zmem 1418 (by decide +kernel) (by decide +kernel)), (zmem 101 (by decide +kernel) (by decide +kernel)), (zmem 1416 (by decide +kernel) (by decide +kernel)), (zmem 1417 (by decide +kernel) (by decide +kernel)), by decide +kernel⟩
theorem cl_RL_198 : zCl RL 198 12 2 Y_X12_see := ⟨⟨⟨by decide +kernel, by decide +kernel⟩, by decide, (zmem 2148 (by decide +kernel) (by decide +kernel)), (zmem 114 (by decide +kernel) (by decide +kernel))⟩, (zmem 2145 (by decide +kernel) (by decide +kernel)), (zmem 2146 (by decide +kernel) (by decide +kernel)), (zmem 2147 (by decide +kernel) (by decide +kernel)), ⟨_, rfl, rfl⟩, by decide, by decide +kernel⟩
theorem cl_RL_199 : zCl RL 199 11 0 Y_X11_forget := ⟨⟨⟨by decide +kernel, by decide +kernel⟩, by decide, (zmem 673 (by decide +kernel) (by decide +kernel)), (zmem 102 (by decide +kernel) (by decide +kernel))⟩, (zmem 670 (by decide +kernel) (by decide +kernel)), (zmem 671 (by decide +kernel) (by decide +kernel)), (zmem 672 (by decide +kernel) (by decide +kernel)), ⟨_, rfl, rfl⟩, by decide, by decide +kernel⟩
theorem cl_RL_202 : zCl RL 202 12 0 Y_X12_forget := ⟨⟨⟨by decide +kernel, by decide +kernel⟩, by decide, (zmem 2152 (by decide +kernel) (by decide +kernel)), (zmem 114 (by decide +kernel) (by decide +kernel))⟩, (zmem 2149 (by decide +kernel) (by decide +kernel)), (zmem 2150 (by decide +kernel) (by decide +kernel)), (zmem 2151 (by decide +kernel) (by decide +kernel)), ⟨_, rfl, rfl⟩, by decide, by decide +kernel⟩
theorem cl_RL_203 : zCh RL 203 4 Y_L_sales := ⟨⟨by decide +kernel, by decide +kernel⟩, by decide, (zmem 1429 (by decide +kernel) (by decide +kernel)), (zmem 101 (by decide +kernel) (by decide +kernel)), (zmem 1427 (by decide +kernel) (by decide +kernel)), (zmem 1428 (by decide +kernel) (by decide +kernel)), by decide +kernel⟩
theorem cl_RL_205 : zCl RL 205 12 2 Y_X12_sales := ⟨⟨⟨by decide +kernel, by decide +kernel⟩, by decide, (zmem 2156 (by decide +kernel) (by decide +kernel)), (zmem 114 (by decide +kernel) (by decide +kernel))⟩, (zmem 2153 (by decide +kernel) (by decide +kernel)), (zmem 2154 (by decide +kernel) (by decide +kernel)), (zmem 2155 (by decide +kernel) (by decide +kernel)), ⟨_, rfl, rfl⟩, by decide, by decide +kernel⟩
theorem cl_RL_206 : zCh RL 206 3 Y_L_look := ⟨⟨by decide +kernel, by decide +kernel⟩, by decide, (zmem 1464 (by decide +kernel) (by decide +kernel)), (zmem 101 (by decide +kernel) (by decide +kernel)), (zmem 1462 (by decide +kernel) (by decide +kernel)), (zmem 1463 (by decide +kernel) (by decide +kernel)), by decide +kernel⟩
theorem cl_RL_208 : zCl RL 208 12 1 Y_X12_look := ⟨⟨⟨by decide +kernel, by decide +kernel⟩, by decide, (zmem 2164 (by decide +kernel) (by decide +kernel)), (zmem 114 (by decide +kernel) (by decide +kernel))⟩, (zmem 2161 (by decide +kernel) (by decide +kernel)), (zmem 2162 (by decide +kernel) (by decide +kernel)), (zmem 2163 (by decide +kernel) (by decide +kernel)), ⟨_, rfl, rfl⟩, by decide, by decide +kernel⟩
theorem cl_RL_209 : zCh RL 209 5 Y_L_clerks := ⟨⟨by decide +kernel, by decide +kernel⟩, by decide, (zmem 1476 (by decide +kernel) (by decide +kernel)), (zmem 101 (by decide +kernel) (by decide +kernel)), (zmem 1474 (by decide +kernel) (by decide +kernel)), (zmem 1475 (by decide +kernel) (by decide +kernel)), by decide +kernel⟩
theorem cl_RL_211 : zCl RL 211 12 3 Y_X12_clerks := ⟨⟨⟨by decide +kernel, by decide +kernel⟩, by decide, (zmem 2168 (by decide +kernel) (by decide +kernel)), (zmem 114 (by decide +kernel) (by decide +kernel))⟩, (zmem 2165 (by decide +kernel) (by decide +kernel)), (zmem 2166 (by decide +kernel) (by decide +kernel)), (zmem 2167 (by decide +kernel) (by decide +kernel)), ⟨_, rfl, rfl⟩, by decide, by decide +kernel⟩
theorem cl_RL_212 : zCh RL 212 5 Y_L_century := ⟨⟨by decide +kernel, by decide +kernel⟩, by decide, (zmem 1492 (by decide +kernel) (by decide +kernel)), (zmem 101 (by decide +kernel) (by decide +kernel)), (zmem 1490 (by decide +kernel) (by decide +kernel)), (zmem 1491 (by decide +kernel) (by decide +kernel)), by decide +kernel⟩
theorem cl_RL_214 : zCl RL 214 12 3 Y_X12_century := ⟨⟨⟨by decide +kernel, by decide +kernel⟩, by decide, (zmem 2176 (by decide +kernel) (by decide +kernel)), (zmem 114 (by decide +kernel) (by decide +kernel))⟩, (zmem 2173 (by decide +kernel) (by decide +kernel)), (zmem 2174 (by decide +kernel) (by decide +kernel)), (zmem 2175 (by decide +kernel) (by decide +kernel)), ⟨_, rfl, rfl⟩, by decide, by decide +kernel⟩
theorem cl_RL_215 : zCh RL 215 5 Y_L_weather := ⟨⟨by decide +kernel, by decide +kernel⟩, by decide, (zmem 1510 (by decide +kernel) (by decide +kernel)), (zmem 101 (by decide +kernel) (by decide +kernel)), (zmem 1508 (by decide +kernel) (by decide +kernel)), (zmem 1509 (by decide +kernel) (by decide +kernel)), by decide +kernel⟩
theorem cl_RL_217 : zCl RL 217 12 3 Y_X12_weather := ⟨⟨⟨by decide +kernel, by decide +kernel⟩, by decide, (zmem 2132 (by decide +kernel) (by decide +kernel)), (zmem 114 (by decide +kernel) (by decide +kernel))⟩, (zmem 2129 (by decide +kernel) (by decide +kernel)), (zmem 2130 (by decide +kernel) (by decide +kernel)), (zmem 2131 (by decide +kernel) (by decide +kernel)), ⟨_, rfl, rfl⟩, by decide, by decide +kernel⟩
theorem cl_RL_218 : zCh RL 218 3 Y_L_owed := ⟨⟨by decide +kernel, by decide +kernel⟩, by decide, (zmem 1517 (by decide +kernel) (by decide +kernel)), (zmem 101 (by decide +kernel) (by decide +kernel)), (zmem 1515 (by decide +kernel) (by decide +kernel)), (zmem 1516 (by decide +kernel) (by decide +kernel)), by decide +kernel⟩
theorem cl_RL_220 : zCl RL 220 12 1 Y_X12_owed := ⟨⟨⟨by decide +kernel, by decide +kernel⟩, by decide, (zmem 2136 (by decide +kernel) (by decide +kernel)), (zmem 114 (by decide +kernel) (by decide +kernel))⟩, (zmem 2133 (by decide +kernel) (by decide +kernel)), (zmem 2134 (by decide +kernel) (by decide +kernel)), (zmem 2135 (by decide +kernel) (by decide +kernel)), ⟨_, rfl, rfl⟩, by decide, by decide +kernel⟩
theorem cl_RL_221 : zCh RL 221 3 Y_L_caravan := ⟨⟨by decide +kernel, by decide +kernel⟩, by decide, (zmem 1528 (by decide +kernel) (by decide +kernel)), (zmem 101 (by decide +kernel) (by decide +kernel)), (zmem 1526 (by decide +kernel) (by decide +kernel)), (zmem 1527 (by decide +kernel) (by decide +kernel)), by decide +kernel⟩
theorem cl_RL_223 : zCl RL 223 12 1 Y_X12_caravan := ⟨⟨⟨by decide +kernel, by decide +kernel⟩, by decide, (zmem 2144 (by decide +kernel) (by decide +kernel)), (zmem 114 (by decide +kernel) (by decide +kernel))⟩, (zmem 2141 (by decide +kernel) (by decide +kernel)), (zmem 2142 (by decide +kernel) (by decide +kernel)), (zmem 2143 (by decide +kernel) (by decide +kernel)), ⟨_, rfl, rfl⟩, by decide, by decide +kernel⟩
theorem cl_RL_224 : zCl RL 224 11 0 Y_X11_image := ⟨⟨⟨by decide +kernel, by decide +kernel⟩, by decide, (zmem 677 (by decide +kernel) (by decide +kernel)), (zmem 102 (by decide +kernel) (by decide +kernel))⟩, (zmem 674 (by decide +kernel) (by decide +kernel)), (zmem 675 (by decide +kernel) (by decide +kernel)), (zmem 676 (by decide +kernel) (by decide +kernel)), ⟨_, rfl, rfl⟩, by decide, by decide +kernel⟩
theorem cl_RL_227 : zCl RL 227 12 0 Y_X12_image := ⟨⟨⟨by decide +kernel, by decide +kernel⟩, by decide, (zmem 2185 (by decide +kernel) (by decide +kernel)), (zmem 114 (by decide +kernel) (by decide +kernel))⟩, (zmem 2182 (by decide +kernel) (by decide +kernel)), (zmem 2183 (by decide +kernel) (by decide +kernel)), (zmem 2184 (by decide +kernel) (by decide +kernel)), ⟨_, rfl, rfl⟩, by decide, by decide +kernel⟩
theorem cl_RL_228 : zCl RL 228 11 0 Y_X11_restore := ⟨⟨⟨by decide +kernel, by decide +kernel⟩, by decide, (zmem 690 (by decide +kernel) (by decide +kernel)), (zmem 102 (by decide +kernel) (by decide +kernel))⟩, (zmem 687 (by decide +kernel) (by decide +kernel)), (zmem 688 (by decide +kernel) (by decide +kernel)), (zmem 689 (by decide +kernel) (by decide +kernel)), ⟨_, rfl, rfl⟩, by decide, by decide +kernel⟩
theorem cl_RL_232 : zCl RL 232 12 0 Y_X12_restore := ⟨⟨⟨by decide +kernel, by decide +kernel⟩, by decide, (zmem 2189 (by decide +kernel) (by decide +kernel)), (zmem 114 (by decide +kernel) (by decide +kernel))⟩, (zmem 2186 (by decide +kernel) (by decide +kernel)), (zmem 2187 (by decide +kernel) (by decide +kernel)), (zmem 2188 (by decide +kernel) (by decide +kernel)), ⟨_, rfl, rfl⟩, by decide, by decide +kernel⟩
theorem zs_0 : zsh 0 = 11 := by decide +kernel
theorem zs_79 : zsh 79 = 12 := by decide +kernel
theorem zs_124 : zsh 124 = 23 := by decide +kernel
theorem za_124 : zal 124 = 1 := by decide +kernel
theorem dd_L_law_23 : decode Y_L_law.2.1 23 = .ok (.iload 4, 2) := by decide +kernel
theorem dd_L_law_25 : decode Y_L_law.2.1 25 = .ok (.aload_n 0, 1) := by decide +kernel
theorem dd_L_law_26 : decode Y_L_law.2.1 26 = .ok (.arraylength, 1) := by decide +kernel
theorem dd_L_law_27 : decode Y_L_law.2.1 27 = .ok (.bipush 6, 2) := by decide +kernel
theorem dd_L_law_29 : decode Y_L_law.2.1 29 = .ok (.isub, 1) := by decide +kernel
theorem dd_L_law_30 : decode Y_L_law.2.1 30 = .ok (.if_icmp .gt 2237, 3) := by decide +kernel
theorem dd_L_law_33 : decode Y_L_law.2.1 33 = .ok (.aload_n 0, 1) := by decide +kernel
theorem dd_L_law_34 : decode Y_L_law.2.1 34 = .ok (.iload 4, 2) := by decide +kernel
theorem dd_L_law_36 : decode Y_L_law.2.1 36 = .ok (.iaload, 1) := by decide +kernel
theorem dd_L_law_37 : decode Y_L_law.2.1 37 = .ok (.bipush 63, 2) := by decide +kernel
theorem dd_L_law_39 : decode Y_L_law.2.1 39 = .ok (.iand, 1) := by decide +kernel
theorem dd_L_law_40 : decode Y_L_law.2.1 40 = .ok (.tableswitch 2221 0 35 #[160, 233, 289, 302, 358, 426, 494, 550, 618, 693, 761, 774, 842, 855, 942, 998, 1054, 1067, 1135, 1215, 1295, 1370, 1438, 1518, 1574, 1642, 1710, 1721, 1789, 1845, 1925, 2005, 2085, 2141, 2197, 2208], 160) := by decide +kernel
theorem dd_L_law_200 : decode Y_L_law.2.1 200 = .ok (.aload_n 1, 1) := by decide +kernel
theorem dd_L_law_201 : decode Y_L_law.2.1 201 = .ok (.aload_n 0, 1) := by decide +kernel
theorem dd_L_law_202 : decode Y_L_law.2.1 202 = .ok (.iload 4, 2) := by decide +kernel
theorem dd_L_law_204 : decode Y_L_law.2.1 204 = .ok (.iconst 1, 1) := by decide +kernel
theorem dd_L_law_205 : decode Y_L_law.2.1 205 = .ok (.iadd, 1) := by decide +kernel
theorem dd_L_law_206 : decode Y_L_law.2.1 206 = .ok (.iaload, 1) := by decide +kernel
theorem dd_L_law_207 : decode Y_L_law.2.1 207 = .ok (.aload_n 0, 1) := by decide +kernel
theorem dd_L_law_208 : decode Y_L_law.2.1 208 = .ok (.iload 4, 2) := by decide +kernel
theorem dd_L_law_210 : decode Y_L_law.2.1 210 = .ok (.iconst 2, 1) := by decide +kernel
theorem dd_L_law_211 : decode Y_L_law.2.1 211 = .ok (.iadd, 1) := by decide +kernel
theorem dd_L_law_212 : decode Y_L_law.2.1 212 = .ok (.iaload, 1) := by decide +kernel
theorem dd_L_law_213 : decode Y_L_law.2.1 213 = .ok (.aload_n 0, 1) := by decide +kernel
theorem dd_L_law_214 : decode Y_L_law.2.1 214 = .ok (.iload 4, 2) := by decide +kernel
theorem dd_L_law_216 : decode Y_L_law.2.1 216 = .ok (.iconst 3, 1) := by decide +kernel
theorem dd_L_law_217 : decode Y_L_law.2.1 217 = .ok (.iadd, 1) := by decide +kernel
theorem dd_L_law_218 : decode Y_L_law.2.1 218 = .ok (.iaload, 1) := by decide +kernel
theorem dd_L_law_219 : decode Y_L_law.2.1 219 = .ok (.aload_n 0, 1) := by decide +kernel
theorem dd_L_law_220 : decode Y_L_law.2.1 220 = .ok (.iload 4, 2) := by decide +kernel
theorem dd_L_law_222 : decode Y_L_law.2.1 222 = .ok (.iconst 4, 1) := by decide +kernel
theorem dd_L_law_223 : decode Y_L_law.2.1 223 = .ok (.iadd, 1) := by decide +kernel
theorem dd_L_law_224 : decode Y_L_law.2.1 224 = .ok (.iaload, 1) := by decide +kernel
theorem dd_L_law_225 : decode Y_L_law.2.1 225 = .ok (.aload_n 0, 1) := by decide +kernel
theorem dd_L_law_226 : decode Y_L_law.2.1 226 = .ok (.iload 4, 2) := by decide +kernel
theorem dd_L_law_228 : decode Y_L_law.2.1 228 = .ok (.iconst 5, 1) := by decide +kernel
theorem dd_L_law_229 : decode Y_L_law.2.1 229 = .ok (.iadd, 1) := by decide +kernel
theorem dd_L_law_230 : decode Y_L_law.2.1 230 = .ok (.iaload, 1) := by decide +kernel
theorem dd_L_law_231 : decode Y_L_law.2.1 231 = .ok (.invokevirtual 106, 3) := by decide +kernel
theorem dd_L_law_234 : decode Y_L_law.2.1 234 = .ok (.aload_n 2, 1) := by decide +kernel
theorem dd_L_law_235 : decode Y_L_law.2.1 235 = .ok (.aload_n 0, 1) := by decide +kernel
theorem dd_L_law_236 : decode Y_L_law.2.1 236 = .ok (.iload 4, 2) := by decide +kernel
theorem dd_L_law_238 : decode Y_L_law.2.1 238 = .ok (.iconst 1, 1) := by decide +kernel
theorem dd_L_law_239 : decode Y_L_law.2.1 239 = .ok (.iadd, 1) := by decide +kernel
theorem dd_L_law_240 : decode Y_L_law.2.1 240 = .ok (.iaload, 1) := by decide +kernel
theorem dd_L_law_241 : decode Y_L_law.2.1 241 = .ok (.aload_n 0, 1) := by decide +kernel
theorem dd_L_law_242 : decode Y_L_law.2.1 242 = .ok (.iload 4, 2) := by decide +kernel
theorem dd_L_law_244 : decode Y_L_law.2.1 244 = .ok (.iconst 2, 1) := by decide +kernel
theorem dd_L_law_245 : decode Y_L_law.2.1 245 = .ok (.iadd, 1) := by decide +kernel
theorem dd_L_law_246 : decode Y_L_law.2.1 246 = .ok (.iaload, 1) := by decide +kernel
theorem dd_L_law_247 : decode Y_L_law.2.1 247 = .ok (.aload_n 0, 1) := by decide +kernel
theorem dd_L_law_248 : decode Y_L_law.2.1 248 = .ok (.iload 4, 2) := by decide +kernel
theorem dd_L_law_250 : decode Y_L_law.2.1 250 = .ok (.iconst 3, 1) := by decide +kernel
theorem dd_L_law_251 : decode Y_L_law.2.1 251 = .ok (.iadd, 1) := by decide +kernel
theorem dd_L_law_252 : decode Y_L_law.2.1 252 = .ok (.iaload, 1) := by decide +kernel
theorem dd_L_law_253 : decode Y_L_law.2.1 253 = .ok (.aload_n 0, 1) := by decide +kernel
theorem dd_L_law_254 : decode Y_L_law.2.1 254 = .ok (.iload 4, 2) := by decide +kernel
theorem dd_L_law_256 : decode Y_L_law.2.1 256 = .ok (.iconst 4, 1) := by decide +kernel
theorem dd_L_law_257 : decode Y_L_law.2.1 257 = .ok (.iadd, 1) := by decide +kernel
theorem dd_L_law_258 : decode Y_L_law.2.1 258 = .ok (.iaload, 1) := by decide +kernel
theorem dd_L_law_259 : decode Y_L_law.2.1 259 = .ok (.aload_n 0, 1) := by decide +kernel
theorem dd_L_law_260 : decode Y_L_law.2.1 260 = .ok (.iload 4, 2) := by decide +kernel
theorem dd_L_law_262 : decode Y_L_law.2.1 262 = .ok (.iconst 5, 1) := by decide +kernel
theorem dd_L_law_263 : decode Y_L_law.2.1 263 = .ok (.iadd, 1) := by decide +kernel
theorem dd_L_law_264 : decode Y_L_law.2.1 264 = .ok (.iaload, 1) := by decide +kernel
theorem dd_L_law_265 : decode Y_L_law.2.1 265 = .ok (.invokevirtual 110, 3) := by decide +kernel
theorem dd_L_law_268 : decode Y_L_law.2.1 268 = .ok (.if_icmp .eq 1993, 3) := by decide +kernel
theorem dd_L_law_271 : decode Y_L_law.2.1 271 = .ok (.iconst 0, 1) := by decide +kernel
theorem dd_L_law_272 : decode Y_L_law.2.1 272 = .ok (.ireturn, 1) := by decide +kernel
theorem dd_L_law_273 : decode Y_L_law.2.1 273 = .ok (.aload_n 1, 1) := by decide +kernel
theorem dd_L_law_274 : decode Y_L_law.2.1 274 = .ok (.aload_n 0, 1) := by decide +kernel
theorem dd_L_law_275 : decode Y_L_law.2.1 275 = .ok (.iload 4, 2) := by decide +kernel
theorem dd_L_law_277 : decode Y_L_law.2.1 277 = .ok (.iconst 1, 1) := by decide +kernel
theorem dd_L_law_278 : decode Y_L_law.2.1 278 = .ok (.iadd, 1) := by decide +kernel
theorem dd_L_law_279 : decode Y_L_law.2.1 279 = .ok (.iaload, 1) := by decide +kernel
theorem dd_L_law_280 : decode Y_L_law.2.1 280 = .ok (.aload_n 3, 1) := by decide +kernel
theorem dd_L_law_281 : decode Y_L_law.2.1 281 = .ok (.invokestatic 111, 3) := by decide +kernel
theorem dd_L_law_284 : decode Y_L_law.2.1 284 = .ok (.istore 5, 2) := by decide +kernel
theorem dd_L_law_286 : decode Y_L_law.2.1 286 = .ok (.aload_n 2, 1) := by decide +kernel
theorem dd_L_law_287 : decode Y_L_law.2.1 287 = .ok (.aload_n 0, 1) := by decide +kernel
theorem dd_L_law_288 : decode Y_L_law.2.1 288 = .ok (.iload 4, 2) := by decide +kernel
theorem dd_L_law_290 : decode Y_L_law.2.1 290 = .ok (.iconst 1, 1) := by decide +kernel
theorem dd_L_law_291 : decode Y_L_law.2.1 291 = .ok (.iadd, 1) := by decide +kernel
theorem dd_L_law_292 : decode Y_L_law.2.1 292 = .ok (.iaload, 1) := by decide +kernel
theorem dd_L_law_293 : decode Y_L_law.2.1 293 = .ok (.invokevirtual 116, 3) := by decide +kernel
theorem dd_L_law_296 : decode Y_L_law.2.1 296 = .ok (.istore 6, 2) := by decide +kernel
theorem dd_L_law_298 : decode Y_L_law.2.1 298 = .ok (.aload_n 2, 1) := by decide +kernel
theorem dd_L_law_299 : decode Y_L_law.2.1 299 = .ok (.invokevirtual 117, 3) := by decide +kernel
theorem dd_L_law_302 : decode Y_L_law.2.1 302 = .ok (.iload 5, 2) := by decide +kernel
theorem dd_L_law_304 : decode Y_L_law.2.1 304 = .ok (.if_icmp .eq 5, 3) := by decide +kernel
theorem dd_L_law_307 : decode Y_L_law.2.1 307 = .ok (.iconst 0, 1) := by decide +kernel
theorem dd_L_law_308 : decode Y_L_law.2.1 308 = .ok (.ireturn, 1) := by decide +kernel
theorem dd_L_law_309 : decode Y_L_law.2.1 309 = .ok (.iload 5, 2) := by decide +kernel
theorem dd_L_law_311 : decode Y_L_law.2.1 311 = .ok (.ifCond .ne 15, 3) := by decide +kernel
theorem dd_L_law_314 : decode Y_L_law.2.1 314 = .ok (.aload_n 3, 1) := by decide +kernel
theorem dd_L_law_315 : decode Y_L_law.2.1 315 = .ok (.iconst 0, 1) := by decide +kernel
theorem dd_L_law_316 : decode Y_L_law.2.1 316 = .ok (.laload, 1) := by decide +kernel
theorem dd_L_law_317 : decode Y_L_law.2.1 317 = .ok (.iload 6, 2) := by decide +kernel
theorem dd_L_law_319 : decode Y_L_law.2.1 319 = .ok (.i2l, 1) := by decide +kernel
theorem dd_L_law_320 : decode Y_L_law.2.1 320 = .ok (.lcmp, 1) := by decide +kernel
theorem dd_L_law_321 : decode Y_L_law.2.1 321 = .ok (.ifCond .eq 5, 3) := by decide +kernel
theorem dd_L_law_324 : decode Y_L_law.2.1 324 = .ok (.iconst 0, 1) := by decide +kernel
theorem dd_L_law_325 : decode Y_L_law.2.1 325 = .ok (.ireturn, 1) := by decide +kernel
theorem dd_L_law_326 : decode Y_L_law.2.1 326 = .ok (.goto 1935, 3) := by decide +kernel
theorem dd_L_law_329 : decode Y_L_law.2.1 329 = .ok (.aload_n 1, 1) := by decide +kernel
theorem dd_L_law_330 : decode Y_L_law.2.1 330 = .ok (.invokevirtual 121, 3) := by decide +kernel
theorem dd_L_law_333 : decode Y_L_law.2.1 333 = .ok (.aload_n 2, 1) := by decide +kernel
theorem dd_L_law_334 : decode Y_L_law.2.1 334 = .ok (.invokevirtual 124, 3) := by decide +kernel
theorem dd_L_law_337 : decode Y_L_law.2.1 337 = .ok (.if_icmp .eq 1924, 3) := by decide +kernel
theorem dd_L_law_340 : decode Y_L_law.2.1 340 = .ok (.iconst 0, 1) := by decide +kernel
theorem dd_L_law_341 : decode Y_L_law.2.1 341 = .ok (.ireturn, 1) := by decide +kernel
theorem dd_L_law_342 : decode Y_L_law.2.1 342 = .ok (.aload_n 1, 1) := by decide +kernel
theorem dd_L_law_343 : decode Y_L_law.2.1 343 = .ok (.aload_n 0, 1) := by decide +kernel
theorem dd_L_law_344 : decode Y_L_law.2.1 344 = .ok (.iload 4, 2) := by decide +kernel
theorem dd_L_law_346 : decode Y_L_law.2.1 346 = .ok (.iconst 1, 1) := by decide +kernel
theorem dd_L_law_347 : decode Y_L_law.2.1 347 = .ok (.iadd, 1) := by decide +kernel
theorem dd_L_law_348 : decode Y_L_law.2.1 348 = .ok (.iaload, 1) := by decide +kernel
theorem dd_L_law_349 : decode Y_L_law.2.1 349 = .ok (.aload_n 3, 1) := by decide +kernel
theorem dd_L_law_350 : decode Y_L_law.2.1 350 = .ok (.invokestatic 125, 3) := by decide +kernel
theorem dd_L_law_353 : decode Y_L_law.2.1 353 = .ok (.istore 5, 2) := by decide +kernel
