/-! the law: its instructions, 4 -/
theorem dlaw_1017 : decode code 1017 = .ok (.iadd, 1) := by decide +kernel
theorem dlaw_1018 : decode code 1018 = .ok (.iaload, 1) := by decide +kernel
theorem dlaw_1019 : decode code 1019 = .ok (.invokevirtual 117, 3) := by decide +kernel
theorem dlaw_1022 : decode code 1022 = .ok (.if_icmp .eq 298, 3) := by decide +kernel
theorem dlaw_1027 : decode code 1027 = .ok (.aload_n 1, 1) := by decide +kernel
theorem dlaw_1028 : decode code 1028 = .ok (.invokevirtual 118, 3) := by decide +kernel
theorem dlaw_1031 : decode code 1031 = .ok (.aload_n 2, 1) := by decide +kernel
theorem dlaw_1032 : decode code 1032 = .ok (.invokevirtual 121, 3) := by decide +kernel
theorem dlaw_1035 : decode code 1035 = .ok (.if_icmp .eq 285, 3) := by decide +kernel
theorem dlaw_1040 : decode code 1040 = .ok (.aload_n 1, 1) := by decide +kernel
theorem dlaw_1041 : decode code 1041 = .ok (.aload_n 0, 1) := by decide +kernel
theorem dlaw_1042 : decode code 1042 = .ok (.iload_n 3, 1) := by decide +kernel
theorem dlaw_1043 : decode code 1043 = .ok (.iconst 1, 1) := by decide +kernel
theorem dlaw_1044 : decode code 1044 = .ok (.iadd, 1) := by decide +kernel
theorem dlaw_1045 : decode code 1045 = .ok (.iaload, 1) := by decide +kernel
theorem dlaw_1046 : decode code 1046 = .ok (.invokevirtual 122, 3) := by decide +kernel
theorem dlaw_1049 : decode code 1049 = .ok (.aload_n 2, 1) := by decide +kernel
theorem dlaw_1050 : decode code 1050 = .ok (.aload_n 0, 1) := by decide +kernel
theorem dlaw_1051 : decode code 1051 = .ok (.iload_n 3, 1) := by decide +kernel
theorem dlaw_1052 : decode code 1052 = .ok (.iconst 1, 1) := by decide +kernel
theorem dlaw_1053 : decode code 1053 = .ok (.iadd, 1) := by decide +kernel
theorem dlaw_1054 : decode code 1054 = .ok (.iaload, 1) := by decide +kernel
theorem dlaw_1055 : decode code 1055 = .ok (.invokevirtual 125, 3) := by decide +kernel
theorem dlaw_1058 : decode code 1058 = .ok (.if_icmp .eq 262, 3) := by decide +kernel
theorem dlaw_1063 : decode code 1063 = .ok (.aload_n 1, 1) := by decide +kernel
theorem dlaw_1064 : decode code 1064 = .ok (.aload_n 0, 1) := by decide +kernel
theorem dlaw_1065 : decode code 1065 = .ok (.iload_n 3, 1) := by decide +kernel
theorem dlaw_1066 : decode code 1066 = .ok (.iconst 1, 1) := by decide +kernel
theorem dlaw_1067 : decode code 1067 = .ok (.iadd, 1) := by decide +kernel
theorem dlaw_1068 : decode code 1068 = .ok (.iaload, 1) := by decide +kernel
theorem dlaw_1069 : decode code 1069 = .ok (.aload_n 0, 1) := by decide +kernel
theorem dlaw_1070 : decode code 1070 = .ok (.iload_n 3, 1) := by decide +kernel
theorem dlaw_1071 : decode code 1071 = .ok (.iconst 2, 1) := by decide +kernel
theorem dlaw_1072 : decode code 1072 = .ok (.iadd, 1) := by decide +kernel
theorem dlaw_1073 : decode code 1073 = .ok (.iaload, 1) := by decide +kernel
theorem dlaw_1074 : decode code 1074 = .ok (.invokevirtual 126, 3) := by decide +kernel
theorem dlaw_1077 : decode code 1077 = .ok (.aload_n 2, 1) := by decide +kernel
theorem dlaw_1078 : decode code 1078 = .ok (.aload_n 0, 1) := by decide +kernel
theorem dlaw_1079 : decode code 1079 = .ok (.iload_n 3, 1) := by decide +kernel
theorem dlaw_1080 : decode code 1080 = .ok (.iconst 1, 1) := by decide +kernel
theorem dlaw_1081 : decode code 1081 = .ok (.iadd, 1) := by decide +kernel
theorem dlaw_1082 : decode code 1082 = .ok (.iaload, 1) := by decide +kernel
theorem dlaw_1083 : decode code 1083 = .ok (.aload_n 0, 1) := by decide +kernel
theorem dlaw_1084 : decode code 1084 = .ok (.iload_n 3, 1) := by decide +kernel
theorem dlaw_1085 : decode code 1085 = .ok (.iconst 2, 1) := by decide +kernel
theorem dlaw_1086 : decode code 1086 = .ok (.iadd, 1) := by decide +kernel
theorem dlaw_1087 : decode code 1087 = .ok (.iaload, 1) := by decide +kernel
theorem dlaw_1088 : decode code 1088 = .ok (.invokevirtual 129, 3) := by decide +kernel
theorem dlaw_1091 : decode code 1091 = .ok (.if_icmp .eq 229, 3) := by decide +kernel
theorem dlaw_1096 : decode code 1096 = .ok (.aload_n 1, 1) := by decide +kernel
theorem dlaw_1097 : decode code 1097 = .ok (.aload_n 0, 1) := by decide +kernel
theorem dlaw_1098 : decode code 1098 = .ok (.iload_n 3, 1) := by decide +kernel
theorem dlaw_1099 : decode code 1099 = .ok (.iconst 1, 1) := by decide +kernel
theorem dlaw_1100 : decode code 1100 = .ok (.iadd, 1) := by decide +kernel
theorem dlaw_1101 : decode code 1101 = .ok (.iaload, 1) := by decide +kernel
theorem dlaw_1102 : decode code 1102 = .ok (.invokevirtual 130, 3) := by decide +kernel
theorem dlaw_1105 : decode code 1105 = .ok (.aload_n 2, 1) := by decide +kernel
theorem dlaw_1106 : decode code 1106 = .ok (.aload_n 0, 1) := by decide +kernel
theorem dlaw_1107 : decode code 1107 = .ok (.iload_n 3, 1) := by decide +kernel
theorem dlaw_1108 : decode code 1108 = .ok (.iconst 1, 1) := by decide +kernel
theorem dlaw_1109 : decode code 1109 = .ok (.iadd, 1) := by decide +kernel
theorem dlaw_1110 : decode code 1110 = .ok (.iaload, 1) := by decide +kernel
theorem dlaw_1111 : decode code 1111 = .ok (.invokevirtual 133, 3) := by decide +kernel
theorem dlaw_1114 : decode code 1114 = .ok (.if_icmp .eq 206, 3) := by decide +kernel
theorem dlaw_1119 : decode code 1119 = .ok (.aload_n 1, 1) := by decide +kernel
theorem dlaw_1120 : decode code 1120 = .ok (.invokevirtual 134, 3) := by decide +kernel
theorem dlaw_1123 : decode code 1123 = .ok (.aload_n 2, 1) := by decide +kernel
theorem dlaw_1124 : decode code 1124 = .ok (.invokevirtual 137, 3) := by decide +kernel
theorem dlaw_1127 : decode code 1127 = .ok (.if_icmp .eq 193, 3) := by decide +kernel
theorem dlaw_1132 : decode code 1132 = .ok (.aload_n 1, 1) := by decide +kernel
theorem dlaw_1133 : decode code 1133 = .ok (.invokevirtual 138, 3) := by decide +kernel
theorem dlaw_1136 : decode code 1136 = .ok (.aload_n 2, 1) := by decide +kernel
theorem dlaw_1137 : decode code 1137 = .ok (.invokevirtual 141, 3) := by decide +kernel
theorem dlaw_1140 : decode code 1140 = .ok (.if_icmp .eq 180, 3) := by decide +kernel
theorem dlaw_1145 : decode code 1145 = .ok (.aload_n 1, 1) := by decide +kernel
theorem dlaw_1146 : decode code 1146 = .ok (.invokevirtual 142, 3) := by decide +kernel
theorem dlaw_1149 : decode code 1149 = .ok (.aload_n 2, 1) := by decide +kernel
theorem dlaw_1150 : decode code 1150 = .ok (.invokevirtual 145, 3) := by decide +kernel
theorem dlaw_1153 : decode code 1153 = .ok (.if_icmp .eq 167, 3) := by decide +kernel
theorem dlaw_1158 : decode code 1158 = .ok (.aload_n 1, 1) := by decide +kernel
theorem dlaw_1159 : decode code 1159 = .ok (.aload_n 0, 1) := by decide +kernel
theorem dlaw_1160 : decode code 1160 = .ok (.iload_n 3, 1) := by decide +kernel
theorem dlaw_1161 : decode code 1161 = .ok (.iconst 1, 1) := by decide +kernel
theorem dlaw_1162 : decode code 1162 = .ok (.iadd, 1) := by decide +kernel
theorem dlaw_1163 : decode code 1163 = .ok (.iaload, 1) := by decide +kernel
theorem dlaw_1164 : decode code 1164 = .ok (.aload_n 0, 1) := by decide +kernel
theorem dlaw_1165 : decode code 1165 = .ok (.iload_n 3, 1) := by decide +kernel
theorem dlaw_1166 : decode code 1166 = .ok (.iconst 2, 1) := by decide +kernel
theorem dlaw_1167 : decode code 1167 = .ok (.iadd, 1) := by decide +kernel
theorem dlaw_1168 : decode code 1168 = .ok (.iaload, 1) := by decide +kernel
theorem dlaw_1169 : decode code 1169 = .ok (.invokevirtual 146, 3) := by decide +kernel
theorem dlaw_1172 : decode code 1172 = .ok (.aload_n 2, 1) := by decide +kernel
theorem dlaw_1173 : decode code 1173 = .ok (.aload_n 0, 1) := by decide +kernel
theorem dlaw_1174 : decode code 1174 = .ok (.iload_n 3, 1) := by decide +kernel
theorem dlaw_1175 : decode code 1175 = .ok (.iconst 1, 1) := by decide +kernel
theorem dlaw_1176 : decode code 1176 = .ok (.iadd, 1) := by decide +kernel
theorem dlaw_1177 : decode code 1177 = .ok (.iaload, 1) := by decide +kernel
theorem dlaw_1178 : decode code 1178 = .ok (.aload_n 0, 1) := by decide +kernel
theorem dlaw_1179 : decode code 1179 = .ok (.iload_n 3, 1) := by decide +kernel
theorem dlaw_1180 : decode code 1180 = .ok (.iconst 2, 1) := by decide +kernel
theorem dlaw_1181 : decode code 1181 = .ok (.iadd, 1) := by decide +kernel
theorem dlaw_1182 : decode code 1182 = .ok (.iaload, 1) := by decide +kernel
theorem dlaw_1183 : decode code 1183 = .ok (.invokevirtual 149, 3) := by decide +kernel
theorem dlaw_1186 : decode code 1186 = .ok (.if_icmp .eq 134, 3) := by decide +kernel
theorem dlaw_1191 : decode code 1191 = .ok (.aload_n 1, 1) := by decide +kernel
theorem dlaw_1192 : decode code 1192 = .ok (.aload_n 0, 1) := by decide +kernel
theorem dlaw_1193 : decode code 1193 = .ok (.iload_n 3, 1) := by decide +kernel
theorem dlaw_1194 : decode code 1194 = .ok (.iconst 1, 1) := by decide +kernel
theorem dlaw_1195 : decode code 1195 = .ok (.iadd, 1) := by decide +kernel
theorem dlaw_1196 : decode code 1196 = .ok (.iaload, 1) := by decide +kernel
theorem dlaw_1197 : decode code 1197 = .ok (.aload_n 0, 1) := by decide +kernel
theorem dlaw_1198 : decode code 1198 = .ok (.iload_n 3, 1) := by decide +kernel
theorem dlaw_1199 : decode code 1199 = .ok (.iconst 2, 1) := by decide +kernel
theorem dlaw_1200 : decode code 1200 = .ok (.iadd, 1) := by decide +kernel
theorem dlaw_1201 : decode code 1201 = .ok (.iaload, 1) := by decide +kernel
theorem dlaw_1202 : decode code 1202 = .ok (.aload_n 0, 1) := by decide +kernel
theorem dlaw_1203 : decode code 1203 = .ok (.iload_n 3, 1) := by decide +kernel
theorem dlaw_1204 : decode code 1204 = .ok (.iconst 3, 1) := by decide +kernel
theorem dlaw_1205 : decode code 1205 = .ok (.iadd, 1) := by decide +kernel
theorem dlaw_1206 : decode code 1206 = .ok (.iaload, 1) := by decide +kernel
theorem dlaw_1207 : decode code 1207 = .ok (.invokevirtual 150, 3) := by decide +kernel
theorem dlaw_1210 : decode code 1210 = .ok (.aload_n 2, 1) := by decide +kernel
theorem dlaw_1211 : decode code 1211 = .ok (.aload_n 0, 1) := by decide +kernel
theorem dlaw_1212 : decode code 1212 = .ok (.iload_n 3, 1) := by decide +kernel
theorem dlaw_1213 : decode code 1213 = .ok (.iconst 1, 1) := by decide +kernel
theorem dlaw_1214 : decode code 1214 = .ok (.iadd, 1) := by decide +kernel
theorem dlaw_1215 : decode code 1215 = .ok (.iaload, 1) := by decide +kernel
theorem dlaw_1216 : decode code 1216 = .ok (.aload_n 0, 1) := by decide +kernel
theorem dlaw_1217 : decode code 1217 = .ok (.iload_n 3, 1) := by decide +kernel
theorem dlaw_1218 : decode code 1218 = .ok (.iconst 2, 1) := by decide +kernel
theorem dlaw_1219 : decode code 1219 = .ok (.iadd, 1) := by decide +kernel
theorem dlaw_1220 : decode code 1220 = .ok (.iaload, 1) := by decide +kernel
theorem dlaw_1221 : decode code 1221 = .ok (.aload_n 0, 1) := by decide +kernel
theorem dlaw_1222 : decode code 1222 = .ok (.iload_n 3, 1) := by decide +kernel
theorem dlaw_1223 : decode code 1223 = .ok (.iconst 3, 1) := by decide +kernel
theorem dlaw_1224 : decode code 1224 = .ok (.iadd, 1) := by decide +kernel
theorem dlaw_1225 : decode code 1225 = .ok (.iaload, 1) := by decide +kernel
theorem dlaw_1226 : decode code 1226 = .ok (.invokevirtual 153, 3) := by decide +kernel
theorem dlaw_1229 : decode code 1229 = .ok (.if_icmp .eq 91, 3) := by decide +kernel
theorem dlaw_1234 : decode code 1234 = .ok (.aload_n 1, 1) := by decide +kernel
theorem dlaw_1235 : decode code 1235 = .ok (.aload_n 0, 1) := by decide +kernel
theorem dlaw_1236 : decode code 1236 = .ok (.iload_n 3, 1) := by decide +kernel
theorem dlaw_1237 : decode code 1237 = .ok (.iconst 1, 1) := by decide +kernel
theorem dlaw_1238 : decode code 1238 = .ok (.iadd, 1) := by decide +kernel
theorem dlaw_1239 : decode code 1239 = .ok (.iaload, 1) := by decide +kernel
theorem dlaw_1240 : decode code 1240 = .ok (.aload_n 0, 1) := by decide +kernel
theorem dlaw_1241 : decode code 1241 = .ok (.iload_n 3, 1) := by decide +kernel
theorem dlaw_1242 : decode code 1242 = .ok (.iconst 2, 1) := by decide +kernel
theorem dlaw_1243 : decode code 1243 = .ok (.iadd, 1) := by decide +kernel
theorem dlaw_1244 : decode code 1244 = .ok (.iaload, 1) := by decide +kernel
theorem dlaw_1245 : decode code 1245 = .ok (.aload_n 0, 1) := by decide +kernel
theorem dlaw_1246 : decode code 1246 = .ok (.iload_n 3, 1) := by decide +kernel
theorem dlaw_1247 : decode code 1247 = .ok (.iconst 3, 1) := by decide +kernel
theorem dlaw_1248 : decode code 1248 = .ok (.iadd, 1) := by decide +kernel
theorem dlaw_1249 : decode code 1249 = .ok (.iaload, 1) := by decide +kernel
theorem dlaw_1250 : decode code 1250 = .ok (.aload_n 0, 1) := by decide +kernel
theorem dlaw_1251 : decode code 1251 = .ok (.iload_n 3, 1) := by decide +kernel
theorem dlaw_1252 : decode code 1252 = .ok (.iconst 4, 1) := by decide +kernel
theorem dlaw_1253 : decode code 1253 = .ok (.iadd, 1) := by decide +kernel
theorem dlaw_1254 : decode code 1254 = .ok (.iaload, 1) := by decide +kernel
theorem dlaw_1255 : decode code 1255 = .ok (.aload_n 0, 1) := by decide +kernel
theorem dlaw_1256 : decode code 1256 = .ok (.iload_n 3, 1) := by decide +kernel
theorem dlaw_1257 : decode code 1257 = .ok (.iconst 5, 1) := by decide +kernel
theorem dlaw_1258 : decode code 1258 = .ok (.iadd, 1) := by decide +kernel
theorem dlaw_1259 : decode code 1259 = .ok (.iaload, 1) := by decide +kernel
theorem dlaw_1260 : decode code 1260 = .ok (.invokevirtual 154, 3) := by decide +kernel
theorem dlaw_1263 : decode code 1263 = .ok (.aload_n 2, 1) := by decide +kernel
theorem dlaw_1264 : decode code 1264 = .ok (.aload_n 0, 1) := by decide +kernel
theorem dlaw_1265 : decode code 1265 = .ok (.iload_n 3, 1) := by decide +kernel
theorem dlaw_1266 : decode code 1266 = .ok (.iconst 1, 1) := by decide +kernel
theorem dlaw_1267 : decode code 1267 = .ok (.iadd, 1) := by decide +kernel
theorem dlaw_1268 : decode code 1268 = .ok (.iaload, 1) := by decide +kernel
theorem dlaw_1269 : decode code 1269 = .ok (.aload_n 0, 1) := by decide +kernel
theorem dlaw_1270 : decode code 1270 = .ok (.iload_n 3, 1) := by decide +kernel
theorem dlaw_1271 : decode code 1271 = .ok (.iconst 2, 1) := by decide +kernel
theorem dlaw_1272 : decode code 1272 = .ok (.iadd, 1) := by decide +kernel
theorem dlaw_1273 : decode code 1273 = .ok (.iaload, 1) := by decide +kernel
theorem dlaw_1274 : decode code 1274 = .ok (.aload_n 0, 1) := by decide +kernel
theorem dlaw_1275 : decode code 1275 = .ok (.iload_n 3, 1) := by decide +kernel
theorem dlaw_1276 : decode code 1276 = .ok (.iconst 3, 1) := by decide +kernel
theorem dlaw_1277 : decode code 1277 = .ok (.iadd, 1) := by decide +kernel
theorem dlaw_1278 : decode code 1278 = .ok (.iaload, 1) := by decide +kernel
theorem dlaw_1279 : decode code 1279 = .ok (.aload_n 0, 1) := by decide +kernel
theorem dlaw_1280 : decode code 1280 = .ok (.iload_n 3, 1) := by decide +kernel
theorem dlaw_1281 : decode code 1281 = .ok (.iconst 4, 1) := by decide +kernel
theorem dlaw_1282 : decode code 1282 = .ok (.iadd, 1) := by decide +kernel
theorem dlaw_1283 : decode code 1283 = .ok (.iaload, 1) := by decide +kernel
theorem dlaw_1284 : decode code 1284 = .ok (.aload_n 0, 1) := by decide +kernel
theorem dlaw_1285 : decode code 1285 = .ok (.iload_n 3, 1) := by decide +kernel
theorem dlaw_1286 : decode code 1286 = .ok (.iconst 5, 1) := by decide +kernel
theorem dlaw_1287 : decode code 1287 = .ok (.iadd, 1) := by decide +kernel
theorem dlaw_1288 : decode code 1288 = .ok (.iaload, 1) := by decide +kernel
theorem dlaw_1289 : decode code 1289 = .ok (.invokevirtual 157, 3) := by decide +kernel
theorem dlaw_1292 : decode code 1292 = .ok (.if_icmp .eq 28, 3) := by decide +kernel
theorem dlaw_1297 : decode code 1297 = .ok (.aload_n 1, 1) := by decide +kernel
theorem dlaw_1298 : decode code 1298 = .ok (.aload_n 0, 1) := by decide +kernel
theorem dlaw_1299 : decode code 1299 = .ok (.iload_n 3, 1) := by decide +kernel
theorem dlaw_1300 : decode code 1300 = .ok (.iconst 1, 1) := by decide +kernel
theorem dlaw_1301 : decode code 1301 = .ok (.iadd, 1) := by decide +kernel
theorem dlaw_1302 : decode code 1302 = .ok (.iaload, 1) := by decide +kernel
theorem dlaw_1303 : decode code 1303 = .ok (.invokevirtual 158, 3) := by decide +kernel
theorem dlaw_1306 : decode code 1306 = .ok (.aload_n 2, 1) := by decide +kernel
theorem dlaw_1307 : decode code 1307 = .ok (.aload_n 0, 1) := by decide +kernel
theorem dlaw_1308 : decode code 1308 = .ok (.iload_n 3, 1) := by decide +kernel
theorem dlaw_1309 : decode code 1309 = .ok (.iconst 1, 1) := by decide +kernel
theorem dlaw_1310 : decode code 1310 = .ok (.iadd, 1) := by decide +kernel
theorem dlaw_1311 : decode code 1311 = .ok (.iaload, 1) := by decide +kernel
theorem dlaw_1312 : decode code 1312 = .ok (.invokevirtual 161, 3) := by decide +kernel
theorem dlaw_1315 : decode code 1315 = .ok (.if_icmp .eq 5, 3) := by decide +kernel
theorem dlaw_1320 : decode code 1320 = .ok (.iinc 3 6, 3) := by decide +kernel
theorem dlaw_1323 : decode code 1323 = .ok (.goto (-1305), 3) := by decide +kernel
theorem dlaw_1326 : decode code 1326 = .ok (.iconst 1, 1) := by decide +kernel
theorem dlaw_1327 : decode code 1327 = .ok (.ireturn, 1) := by decide +kernel
