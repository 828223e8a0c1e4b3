/-! the law: what its instructions are -/
theorem dd_L_law_1102 : decode Y_L_law.2.1 1102 = .ok (.if_icmp .eq 1159, 3) := by decide +kernel
theorem dd_L_law_1105 : decode Y_L_law.2.1 1105 = .ok (.iconst 0, 1) := by decide +kernel
theorem dd_L_law_1106 : decode Y_L_law.2.1 1106 = .ok (.ireturn, 1) := by decide +kernel
theorem dd_L_law_1107 : decode Y_L_law.2.1 1107 = .ok (.aload_n 1, 1) := by decide +kernel
theorem dd_L_law_1108 : decode Y_L_law.2.1 1108 = .ok (.aload_n 0, 1) := by decide +kernel
theorem dd_L_law_1109 : decode Y_L_law.2.1 1109 = .ok (.iload 4, 2) := by decide +kernel
theorem dd_L_law_1111 : decode Y_L_law.2.1 1111 = .ok (.iconst 1, 1) := by decide +kernel
theorem dd_L_law_1112 : decode Y_L_law.2.1 1112 = .ok (.iadd, 1) := by decide +kernel
theorem dd_L_law_1113 : decode Y_L_law.2.1 1113 = .ok (.iaload, 1) := by decide +kernel
theorem dd_L_law_1114 : decode Y_L_law.2.1 1114 = .ok (.aload_n 0, 1) := by decide +kernel
theorem dd_L_law_1115 : decode Y_L_law.2.1 1115 = .ok (.iload 4, 2) := by decide +kernel
theorem dd_L_law_1117 : decode Y_L_law.2.1 1117 = .ok (.iconst 2, 1) := by decide +kernel
theorem dd_L_law_1118 : decode Y_L_law.2.1 1118 = .ok (.iadd, 1) := by decide +kernel
theorem dd_L_law_1119 : decode Y_L_law.2.1 1119 = .ok (.iaload, 1) := by decide +kernel
theorem dd_L_law_1120 : decode Y_L_law.2.1 1120 = .ok (.aload_n 3, 1) := by decide +kernel
theorem dd_L_law_1121 : decode Y_L_law.2.1 1121 = .ok (.invokestatic 172, 3) := by decide +kernel
theorem dd_L_law_1124 : decode Y_L_law.2.1 1124 = .ok (.istore 5, 2) := by decide +kernel
theorem dd_L_law_1126 : decode Y_L_law.2.1 1126 = .ok (.aload_n 2, 1) := by decide +kernel
theorem dd_L_law_1127 : decode Y_L_law.2.1 1127 = .ok (.aload_n 0, 1) := by decide +kernel
theorem dd_L_law_1128 : decode Y_L_law.2.1 1128 = .ok (.iload 4, 2) := by decide +kernel
theorem dd_L_law_1130 : decode Y_L_law.2.1 1130 = .ok (.iconst 1, 1) := by decide +kernel
theorem dd_L_law_1131 : decode Y_L_law.2.1 1131 = .ok (.iadd, 1) := by decide +kernel
theorem dd_L_law_1132 : decode Y_L_law.2.1 1132 = .ok (.iaload, 1) := by decide +kernel
theorem dd_L_law_1133 : decode Y_L_law.2.1 1133 = .ok (.aload_n 0, 1) := by decide +kernel
theorem dd_L_law_1134 : decode Y_L_law.2.1 1134 = .ok (.iload 4, 2) := by decide +kernel
theorem dd_L_law_1136 : decode Y_L_law.2.1 1136 = .ok (.iconst 2, 1) := by decide +kernel
theorem dd_L_law_1137 : decode Y_L_law.2.1 1137 = .ok (.iadd, 1) := by decide +kernel
theorem dd_L_law_1138 : decode Y_L_law.2.1 1138 = .ok (.iaload, 1) := by decide +kernel
theorem dd_L_law_1139 : decode Y_L_law.2.1 1139 = .ok (.invokevirtual 174, 3) := by decide +kernel
theorem dd_L_law_1142 : decode Y_L_law.2.1 1142 = .ok (.istore 6, 2) := by decide +kernel
theorem dd_L_law_1144 : decode Y_L_law.2.1 1144 = .ok (.aload_n 2, 1) := by decide +kernel
theorem dd_L_law_1145 : decode Y_L_law.2.1 1145 = .ok (.invokevirtual 117, 3) := by decide +kernel
theorem dd_L_law_1148 : decode Y_L_law.2.1 1148 = .ok (.iload 5, 2) := by decide +kernel
theorem dd_L_law_1150 : decode Y_L_law.2.1 1150 = .ok (.if_icmp .eq 5, 3) := by decide +kernel
theorem dd_L_law_1153 : decode Y_L_law.2.1 1153 = .ok (.iconst 0, 1) := by decide +kernel
theorem dd_L_law_1154 : decode Y_L_law.2.1 1154 = .ok (.ireturn, 1) := by decide +kernel
theorem dd_L_law_1155 : decode Y_L_law.2.1 1155 = .ok (.iload 5, 2) := by decide +kernel
theorem dd_L_law_1157 : decode Y_L_law.2.1 1157 = .ok (.ifCond .ne 15, 3) := by decide +kernel
theorem dd_L_law_1160 : decode Y_L_law.2.1 1160 = .ok (.aload_n 3, 1) := by decide +kernel
theorem dd_L_law_1161 : decode Y_L_law.2.1 1161 = .ok (.iconst 0, 1) := by decide +kernel
theorem dd_L_law_1162 : decode Y_L_law.2.1 1162 = .ok (.laload, 1) := by decide +kernel
theorem dd_L_law_1163 : decode Y_L_law.2.1 1163 = .ok (.iload 6, 2) := by decide +kernel
theorem dd_L_law_1165 : decode Y_L_law.2.1 1165 = .ok (.i2l, 1) := by decide +kernel
theorem dd_L_law_1166 : decode Y_L_law.2.1 1166 = .ok (.lcmp, 1) := by decide +kernel
theorem dd_L_law_1167 : decode Y_L_law.2.1 1167 = .ok (.ifCond .eq 5, 3) := by decide +kernel
theorem dd_L_law_1170 : decode Y_L_law.2.1 1170 = .ok (.iconst 0, 1) := by decide +kernel
theorem dd_L_law_1171 : decode Y_L_law.2.1 1171 = .ok (.ireturn, 1) := by decide +kernel
theorem dd_L_law_1172 : decode Y_L_law.2.1 1172 = .ok (.goto 1089, 3) := by decide +kernel
theorem dd_L_law_1175 : decode Y_L_law.2.1 1175 = .ok (.aload_n 1, 1) := by decide +kernel
theorem dd_L_law_1176 : decode Y_L_law.2.1 1176 = .ok (.aload_n 0, 1) := by decide +kernel
theorem dd_L_law_1177 : decode Y_L_law.2.1 1177 = .ok (.iload 4, 2) := by decide +kernel
theorem dd_L_law_1179 : decode Y_L_law.2.1 1179 = .ok (.iconst 1, 1) := by decide +kernel
theorem dd_L_law_1180 : decode Y_L_law.2.1 1180 = .ok (.iadd, 1) := by decide +kernel
theorem dd_L_law_1181 : decode Y_L_law.2.1 1181 = .ok (.iaload, 1) := by decide +kernel
theorem dd_L_law_1182 : decode Y_L_law.2.1 1182 = .ok (.aload_n 0, 1) := by decide +kernel
theorem dd_L_law_1183 : decode Y_L_law.2.1 1183 = .ok (.iload 4, 2) := by decide +kernel
theorem dd_L_law_1185 : decode Y_L_law.2.1 1185 = .ok (.iconst 2, 1) := by decide +kernel
theorem dd_L_law_1186 : decode Y_L_law.2.1 1186 = .ok (.iadd, 1) := by decide +kernel
theorem dd_L_law_1187 : decode Y_L_law.2.1 1187 = .ok (.iaload, 1) := by decide +kernel
theorem dd_L_law_1188 : decode Y_L_law.2.1 1188 = .ok (.aload_n 0, 1) := by decide +kernel
theorem dd_L_law_1189 : decode Y_L_law.2.1 1189 = .ok (.iload 4, 2) := by decide +kernel
theorem dd_L_law_1191 : decode Y_L_law.2.1 1191 = .ok (.iconst 3, 1) := by decide +kernel
theorem dd_L_law_1192 : decode Y_L_law.2.1 1192 = .ok (.iadd, 1) := by decide +kernel
theorem dd_L_law_1193 : decode Y_L_law.2.1 1193 = .ok (.iaload, 1) := by decide +kernel
theorem dd_L_law_1194 : decode Y_L_law.2.1 1194 = .ok (.aload_n 3, 1) := by decide +kernel
theorem dd_L_law_1195 : decode Y_L_law.2.1 1195 = .ok (.invokestatic 175, 3) := by decide +kernel
theorem dd_L_law_1198 : decode Y_L_law.2.1 1198 = .ok (.istore 5, 2) := by decide +kernel
theorem dd_L_law_1200 : decode Y_L_law.2.1 1200 = .ok (.aload_n 2, 1) := by decide +kernel
theorem dd_L_law_1201 : decode Y_L_law.2.1 1201 = .ok (.aload_n 0, 1) := by decide +kernel
theorem dd_L_law_1202 : decode Y_L_law.2.1 1202 = .ok (.iload 4, 2) := by decide +kernel
theorem dd_L_law_1204 : decode Y_L_law.2.1 1204 = .ok (.iconst 1, 1) := by decide +kernel
theorem dd_L_law_1205 : decode Y_L_law.2.1 1205 = .ok (.iadd, 1) := by decide +kernel
theorem dd_L_law_1206 : decode Y_L_law.2.1 1206 = .ok (.iaload, 1) := by decide +kernel
theorem dd_L_law_1207 : decode Y_L_law.2.1 1207 = .ok (.aload_n 0, 1) := by decide +kernel
theorem dd_L_law_1208 : decode Y_L_law.2.1 1208 = .ok (.iload 4, 2) := by decide +kernel
theorem dd_L_law_1210 : decode Y_L_law.2.1 1210 = .ok (.iconst 2, 1) := by decide +kernel
theorem dd_L_law_1211 : decode Y_L_law.2.1 1211 = .ok (.iadd, 1) := by decide +kernel
theorem dd_L_law_1212 : decode Y_L_law.2.1 1212 = .ok (.iaload, 1) := by decide +kernel
theorem dd_L_law_1213 : decode Y_L_law.2.1 1213 = .ok (.aload_n 0, 1) := by decide +kernel
theorem dd_L_law_1214 : decode Y_L_law.2.1 1214 = .ok (.iload 4, 2) := by decide +kernel
theorem dd_L_law_1216 : decode Y_L_law.2.1 1216 = .ok (.iconst 3, 1) := by decide +kernel
theorem dd_L_law_1217 : decode Y_L_law.2.1 1217 = .ok (.iadd, 1) := by decide +kernel
theorem dd_L_law_1218 : decode Y_L_law.2.1 1218 = .ok (.iaload, 1) := by decide +kernel
theorem dd_L_law_1219 : decode Y_L_law.2.1 1219 = .ok (.invokevirtual 177, 3) := by decide +kernel
theorem dd_L_law_1222 : decode Y_L_law.2.1 1222 = .ok (.istore 6, 2) := by decide +kernel
theorem dd_L_law_1224 : decode Y_L_law.2.1 1224 = .ok (.aload_n 2, 1) := by decide +kernel
theorem dd_L_law_1225 : decode Y_L_law.2.1 1225 = .ok (.invokevirtual 117, 3) := by decide +kernel
theorem dd_L_law_1228 : decode Y_L_law.2.1 1228 = .ok (.iload 5, 2) := by decide +kernel
theorem dd_L_law_1230 : decode Y_L_law.2.1 1230 = .ok (.if_icmp .eq 5, 3) := by decide +kernel
theorem dd_L_law_1233 : decode Y_L_law.2.1 1233 = .ok (.iconst 0, 1) := by decide +kernel
theorem dd_L_law_1234 : decode Y_L_law.2.1 1234 = .ok (.ireturn, 1) := by decide +kernel
theorem dd_L_law_1235 : decode Y_L_law.2.1 1235 = .ok (.iload 5, 2) := by decide +kernel
theorem dd_L_law_1237 : decode Y_L_law.2.1 1237 = .ok (.ifCond .ne 15, 3) := by decide +kernel
theorem dd_L_law_1240 : decode Y_L_law.2.1 1240 = .ok (.aload_n 3, 1) := by decide +kernel
theorem dd_L_law_1241 : decode Y_L_law.2.1 1241 = .ok (.iconst 0, 1) := by decide +kernel
theorem dd_L_law_1242 : decode Y_L_law.2.1 1242 = .ok (.laload, 1) := by decide +kernel
theorem dd_L_law_1243 : decode Y_L_law.2.1 1243 = .ok (.iload 6, 2) := by decide +kernel
theorem dd_L_law_1245 : decode Y_L_law.2.1 1245 = .ok (.i2l, 1) := by decide +kernel
theorem dd_L_law_1246 : decode Y_L_law.2.1 1246 = .ok (.lcmp, 1) := by decide +kernel
theorem dd_L_law_1247 : decode Y_L_law.2.1 1247 = .ok (.ifCond .eq 5, 3) := by decide +kernel
theorem dd_L_law_1250 : decode Y_L_law.2.1 1250 = .ok (.iconst 0, 1) := by decide +kernel
theorem dd_L_law_1251 : decode Y_L_law.2.1 1251 = .ok (.ireturn, 1) := by decide +kernel
theorem dd_L_law_1252 : decode Y_L_law.2.1 1252 = .ok (.goto 1009, 3) := by decide +kernel
theorem dd_L_law_1255 : decode Y_L_law.2.1 1255 = .ok (.aload_n 1, 1) := by decide +kernel
theorem dd_L_law_1256 : decode Y_L_law.2.1 1256 = .ok (.aload_n 0, 1) := by decide +kernel
theorem dd_L_law_1257 : decode Y_L_law.2.1 1257 = .ok (.iload 4, 2) := by decide +kernel
theorem dd_L_law_1259 : decode Y_L_law.2.1 1259 = .ok (.iconst 1, 1) := by decide +kernel
theorem dd_L_law_1260 : decode Y_L_law.2.1 1260 = .ok (.iadd, 1) := by decide +kernel
theorem dd_L_law_1261 : decode Y_L_law.2.1 1261 = .ok (.iaload, 1) := by decide +kernel
theorem dd_L_law_1262 : decode Y_L_law.2.1 1262 = .ok (.aload_n 0, 1) := by decide +kernel
theorem dd_L_law_1263 : decode Y_L_law.2.1 1263 = .ok (.iload 4, 2) := by decide +kernel
theorem dd_L_law_1265 : decode Y_L_law.2.1 1265 = .ok (.iconst 2, 1) := by decide +kernel
theorem dd_L_law_1266 : decode Y_L_law.2.1 1266 = .ok (.iadd, 1) := by decide +kernel
theorem dd_L_law_1267 : decode Y_L_law.2.1 1267 = .ok (.iaload, 1) := by decide +kernel
theorem dd_L_law_1268 : decode Y_L_law.2.1 1268 = .ok (.aload_n 0, 1) := by decide +kernel
theorem dd_L_law_1269 : decode Y_L_law.2.1 1269 = .ok (.iload 4, 2) := by decide +kernel
theorem dd_L_law_1271 : decode Y_L_law.2.1 1271 = .ok (.iconst 3, 1) := by decide +kernel
theorem dd_L_law_1272 : decode Y_L_law.2.1 1272 = .ok (.iadd, 1) := by decide +kernel
theorem dd_L_law_1273 : decode Y_L_law.2.1 1273 = .ok (.iaload, 1) := by decide +kernel
theorem dd_L_law_1274 : decode Y_L_law.2.1 1274 = .ok (.aload_n 3, 1) := by decide +kernel
