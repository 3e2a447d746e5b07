theorem d_LW_1020 : decode code 1020 = .ok (.iadd, 1) := by decide +kernel
theorem d_LW_1021 : decode code 1021 = .ok (.iaload, 1) := by decide +kernel
theorem d_LW_1022 : decode code 1022 = .ok (.invokevirtual 134, 3) := by decide +kernel
theorem d_LW_1025 : decode code 1025 = .ok (.aload_n 2, 1) := by decide +kernel
theorem d_LW_1026 : decode code 1026 = .ok (.aload_n 0, 1) := by decide +kernel
theorem d_LW_1027 : decode code 1027 = .ok (.iload_n 3, 1) := by decide +kernel
theorem d_LW_1028 : decode code 1028 = .ok (.iconst 1, 1) := by decide +kernel
theorem d_LW_1029 : decode code 1029 = .ok (.iadd, 1) := by decide +kernel
theorem d_LW_1030 : decode code 1030 = .ok (.iaload, 1) := by decide +kernel
theorem d_LW_1031 : decode code 1031 = .ok (.invokevirtual 137, 3) := by decide +kernel
theorem d_LW_1034 : decode code 1034 = .ok (.if_icmp .eq 367, 3) := by decide +kernel
theorem d_LW_1037 : decode code 1037 = .ok (.iconst 0, 1) := by decide +kernel
theorem d_LW_1038 : decode code 1038 = .ok (.ireturn, 1) := by decide +kernel
theorem d_LW_1039 : decode code 1039 = .ok (.aload_n 1, 1) := by decide +kernel
theorem d_LW_1040 : decode code 1040 = .ok (.aload_n 0, 1) := by decide +kernel
theorem d_LW_1041 : decode code 1041 = .ok (.iload_n 3, 1) := by decide +kernel
theorem d_LW_1042 : decode code 1042 = .ok (.iconst 1, 1) := by decide +kernel
theorem d_LW_1043 : decode code 1043 = .ok (.iadd, 1) := by decide +kernel
theorem d_LW_1044 : decode code 1044 = .ok (.iaload, 1) := by decide +kernel
theorem d_LW_1045 : decode code 1045 = .ok (.aload_n 0, 1) := by decide +kernel
theorem d_LW_1046 : decode code 1046 = .ok (.iload_n 3, 1) := by decide +kernel
theorem d_LW_1047 : decode code 1047 = .ok (.iconst 2, 1) := by decide +kernel
theorem d_LW_1048 : decode code 1048 = .ok (.iadd, 1) := by decide +kernel
theorem d_LW_1049 : decode code 1049 = .ok (.iaload, 1) := by decide +kernel
theorem d_LW_1050 : decode code 1050 = .ok (.aload_n 0, 1) := by decide +kernel
theorem d_LW_1051 : decode code 1051 = .ok (.iload_n 3, 1) := by decide +kernel
theorem d_LW_1052 : decode code 1052 = .ok (.iconst 3, 1) := by decide +kernel
theorem d_LW_1053 : decode code 1053 = .ok (.iadd, 1) := by decide +kernel
theorem d_LW_1054 : decode code 1054 = .ok (.iaload, 1) := by decide +kernel
theorem d_LW_1055 : decode code 1055 = .ok (.invokevirtual 138, 3) := by decide +kernel
theorem d_LW_1058 : decode code 1058 = .ok (.aload_n 2, 1) := by decide +kernel
theorem d_LW_1059 : decode code 1059 = .ok (.aload_n 0, 1) := by decide +kernel
theorem d_LW_1060 : decode code 1060 = .ok (.iload_n 3, 1) := by decide +kernel
theorem d_LW_1061 : decode code 1061 = .ok (.iconst 1, 1) := by decide +kernel
theorem d_LW_1062 : decode code 1062 = .ok (.iadd, 1) := by decide +kernel
theorem d_LW_1063 : decode code 1063 = .ok (.iaload, 1) := by decide +kernel
theorem d_LW_1064 : decode code 1064 = .ok (.aload_n 0, 1) := by decide +kernel
theorem d_LW_1065 : decode code 1065 = .ok (.iload_n 3, 1) := by decide +kernel
theorem d_LW_1066 : decode code 1066 = .ok (.iconst 2, 1) := by decide +kernel
theorem d_LW_1067 : decode code 1067 = .ok (.iadd, 1) := by decide +kernel
theorem d_LW_1068 : decode code 1068 = .ok (.iaload, 1) := by decide +kernel
theorem d_LW_1069 : decode code 1069 = .ok (.aload_n 0, 1) := by decide +kernel
theorem d_LW_1070 : decode code 1070 = .ok (.iload_n 3, 1) := by decide +kernel
theorem d_LW_1071 : decode code 1071 = .ok (.iconst 3, 1) := by decide +kernel
theorem d_LW_1072 : decode code 1072 = .ok (.iadd, 1) := by decide +kernel
theorem d_LW_1073 : decode code 1073 = .ok (.iaload, 1) := by decide +kernel
theorem d_LW_1074 : decode code 1074 = .ok (.invokevirtual 142, 3) := by decide +kernel
theorem d_LW_1077 : decode code 1077 = .ok (.lcmp, 1) := by decide +kernel
theorem d_LW_1078 : decode code 1078 = .ok (.ifCond .eq 323, 3) := by decide +kernel
theorem d_LW_1081 : decode code 1081 = .ok (.iconst 0, 1) := by decide +kernel
theorem d_LW_1082 : decode code 1082 = .ok (.ireturn, 1) := by decide +kernel
theorem d_LW_1083 : decode code 1083 = .ok (.aload_n 1, 1) := by decide +kernel
theorem d_LW_1084 : decode code 1084 = .ok (.aload_n 0, 1) := by decide +kernel
theorem d_LW_1085 : decode code 1085 = .ok (.iload_n 3, 1) := by decide +kernel
theorem d_LW_1086 : decode code 1086 = .ok (.iconst 1, 1) := by decide +kernel
theorem d_LW_1087 : decode code 1087 = .ok (.iadd, 1) := by decide +kernel
theorem d_LW_1088 : decode code 1088 = .ok (.iaload, 1) := by decide +kernel
theorem d_LW_1089 : decode code 1089 = .ok (.aload_n 0, 1) := by decide +kernel
theorem d_LW_1090 : decode code 1090 = .ok (.iload_n 3, 1) := by decide +kernel
theorem d_LW_1091 : decode code 1091 = .ok (.iconst 2, 1) := by decide +kernel
theorem d_LW_1092 : decode code 1092 = .ok (.iadd, 1) := by decide +kernel
theorem d_LW_1093 : decode code 1093 = .ok (.iaload, 1) := by decide +kernel
theorem d_LW_1094 : decode code 1094 = .ok (.invokevirtual 143, 3) := by decide +kernel
theorem d_LW_1097 : decode code 1097 = .ok (.aload_n 2, 1) := by decide +kernel
theorem d_LW_1098 : decode code 1098 = .ok (.aload_n 0, 1) := by decide +kernel
theorem d_LW_1099 : decode code 1099 = .ok (.iload_n 3, 1) := by decide +kernel
theorem d_LW_1100 : decode code 1100 = .ok (.iconst 1, 1) := by decide +kernel
theorem d_LW_1101 : decode code 1101 = .ok (.iadd, 1) := by decide +kernel
theorem d_LW_1102 : decode code 1102 = .ok (.iaload, 1) := by decide +kernel
theorem d_LW_1103 : decode code 1103 = .ok (.aload_n 0, 1) := by decide +kernel
theorem d_LW_1104 : decode code 1104 = .ok (.iload_n 3, 1) := by decide +kernel
theorem d_LW_1105 : decode code 1105 = .ok (.iconst 2, 1) := by decide +kernel
theorem d_LW_1106 : decode code 1106 = .ok (.iadd, 1) := by decide +kernel
theorem d_LW_1107 : decode code 1107 = .ok (.iaload, 1) := by decide +kernel
theorem d_LW_1108 : decode code 1108 = .ok (.invokevirtual 146, 3) := by decide +kernel
theorem d_LW_1111 : decode code 1111 = .ok (.if_icmp .eq 290, 3) := by decide +kernel
theorem d_LW_1114 : decode code 1114 = .ok (.iconst 0, 1) := by decide +kernel
theorem d_LW_1115 : decode code 1115 = .ok (.ireturn, 1) := by decide +kernel
theorem d_LW_1116 : decode code 1116 = .ok (.aload_n 1, 1) := by decide +kernel
theorem d_LW_1117 : decode code 1117 = .ok (.aload_n 0, 1) := by decide +kernel
theorem d_LW_1118 : decode code 1118 = .ok (.iload_n 3, 1) := by decide +kernel
theorem d_LW_1119 : decode code 1119 = .ok (.iconst 1, 1) := by decide +kernel
theorem d_LW_1120 : decode code 1120 = .ok (.iadd, 1) := by decide +kernel
theorem d_LW_1121 : decode code 1121 = .ok (.iaload, 1) := by decide +kernel
theorem d_LW_1122 : decode code 1122 = .ok (.aload_n 0, 1) := by decide +kernel
theorem d_LW_1123 : decode code 1123 = .ok (.iload_n 3, 1) := by decide +kernel
theorem d_LW_1124 : decode code 1124 = .ok (.iconst 2, 1) := by decide +kernel
theorem d_LW_1125 : decode code 1125 = .ok (.iadd, 1) := by decide +kernel
theorem d_LW_1126 : decode code 1126 = .ok (.iaload, 1) := by decide +kernel
theorem d_LW_1127 : decode code 1127 = .ok (.aload_n 0, 1) := by decide +kernel
theorem d_LW_1128 : decode code 1128 = .ok (.iload_n 3, 1) := by decide +kernel
theorem d_LW_1129 : decode code 1129 = .ok (.iconst 3, 1) := by decide +kernel
theorem d_LW_1130 : decode code 1130 = .ok (.iadd, 1) := by decide +kernel
theorem d_LW_1131 : decode code 1131 = .ok (.iaload, 1) := by decide +kernel
theorem d_LW_1132 : decode code 1132 = .ok (.invokevirtual 147, 3) := by decide +kernel
theorem d_LW_1135 : decode code 1135 = .ok (.aload_n 2, 1) := by decide +kernel
theorem d_LW_1136 : decode code 1136 = .ok (.aload_n 0, 1) := by decide +kernel
theorem d_LW_1137 : decode code 1137 = .ok (.iload_n 3, 1) := by decide +kernel
theorem d_LW_1138 : decode code 1138 = .ok (.iconst 1, 1) := by decide +kernel
theorem d_LW_1139 : decode code 1139 = .ok (.iadd, 1) := by decide +kernel
theorem d_LW_1140 : decode code 1140 = .ok (.iaload, 1) := by decide +kernel
theorem d_LW_1141 : decode code 1141 = .ok (.aload_n 0, 1) := by decide +kernel
theorem d_LW_1142 : decode code 1142 = .ok (.iload_n 3, 1) := by decide +kernel
theorem d_LW_1143 : decode code 1143 = .ok (.iconst 2, 1) := by decide +kernel
theorem d_LW_1144 : decode code 1144 = .ok (.iadd, 1) := by decide +kernel
theorem d_LW_1145 : decode code 1145 = .ok (.iaload, 1) := by decide +kernel
theorem d_LW_1146 : decode code 1146 = .ok (.aload_n 0, 1) := by decide +kernel
theorem d_LW_1147 : decode code 1147 = .ok (.iload_n 3, 1) := by decide +kernel
theorem d_LW_1148 : decode code 1148 = .ok (.iconst 3, 1) := by decide +kernel
theorem d_LW_1149 : decode code 1149 = .ok (.iadd, 1) := by decide +kernel
theorem d_LW_1150 : decode code 1150 = .ok (.iaload, 1) := by decide +kernel
theorem d_LW_1151 : decode code 1151 = .ok (.invokevirtual 150, 3) := by decide +kernel
theorem d_LW_1154 : decode code 1154 = .ok (.if_icmp .eq 247, 3) := by decide +kernel
theorem d_LW_1157 : decode code 1157 = .ok (.iconst 0, 1) := by decide +kernel
theorem d_LW_1158 : decode code 1158 = .ok (.ireturn, 1) := by decide +kernel
theorem d_LW_1159 : decode code 1159 = .ok (.aload_n 1, 1) := by decide +kernel
theorem d_LW_1160 : decode code 1160 = .ok (.aload_n 0, 1) := by decide +kernel
theorem d_LW_1161 : decode code 1161 = .ok (.iload_n 3, 1) := by decide +kernel
theorem d_LW_1162 : decode code 1162 = .ok (.iconst 1, 1) := by decide +kernel
theorem d_LW_1163 : decode code 1163 = .ok (.iadd, 1) := by decide +kernel
theorem d_LW_1164 : decode code 1164 = .ok (.iaload, 1) := by decide +kernel
theorem d_LW_1165 : decode code 1165 = .ok (.invokevirtual 151, 3) := by decide +kernel
theorem d_LW_1168 : decode code 1168 = .ok (.aload_n 2, 1) := by decide +kernel
theorem d_LW_1169 : decode code 1169 = .ok (.aload_n 0, 1) := by decide +kernel
theorem d_LW_1170 : decode code 1170 = .ok (.iload_n 3, 1) := by decide +kernel
theorem d_LW_1171 : decode code 1171 = .ok (.iconst 1, 1) := by decide +kernel
theorem d_LW_1172 : decode code 1172 = .ok (.iadd, 1) := by decide +kernel
theorem d_LW_1173 : decode code 1173 = .ok (.iaload, 1) := by decide +kernel
theorem d_LW_1174 : decode code 1174 = .ok (.invokevirtual 154, 3) := by decide +kernel
theorem d_LW_1177 : decode code 1177 = .ok (.if_icmp .eq 224, 3) := by decide +kernel
theorem d_LW_1180 : decode code 1180 = .ok (.iconst 0, 1) := by decide +kernel
theorem d_LW_1181 : decode code 1181 = .ok (.ireturn, 1) := by decide +kernel
theorem d_LW_1182 : decode code 1182 = .ok (.aload_n 1, 1) := by decide +kernel
theorem d_LW_1183 : decode code 1183 = .ok (.aload_n 0, 1) := by decide +kernel
theorem d_LW_1184 : decode code 1184 = .ok (.iload_n 3, 1) := by decide +kernel
theorem d_LW_1185 : decode code 1185 = .ok (.iconst 1, 1) := by decide +kernel
theorem d_LW_1186 : decode code 1186 = .ok (.iadd, 1) := by decide +kernel
theorem d_LW_1187 : decode code 1187 = .ok (.iaload, 1) := by decide +kernel
theorem d_LW_1188 : decode code 1188 = .ok (.aload_n 0, 1) := by decide +kernel
theorem d_LW_1189 : decode code 1189 = .ok (.iload_n 3, 1) := by decide +kernel
theorem d_LW_1190 : decode code 1190 = .ok (.iconst 2, 1) := by decide +kernel
theorem d_LW_1191 : decode code 1191 = .ok (.iadd, 1) := by decide +kernel
theorem d_LW_1192 : decode code 1192 = .ok (.iaload, 1) := by decide +kernel
theorem d_LW_1193 : decode code 1193 = .ok (.aload_n 0, 1) := by decide +kernel
theorem d_LW_1194 : decode code 1194 = .ok (.iload_n 3, 1) := by decide +kernel
theorem d_LW_1195 : decode code 1195 = .ok (.iconst 3, 1) := by decide +kernel
theorem d_LW_1196 : decode code 1196 = .ok (.iadd, 1) := by decide +kernel
theorem d_LW_1197 : decode code 1197 = .ok (.iaload, 1) := by decide +kernel
theorem d_LW_1198 : decode code 1198 = .ok (.aload_n 0, 1) := by decide +kernel
theorem d_LW_1199 : decode code 1199 = .ok (.iload_n 3, 1) := by decide +kernel
theorem d_LW_1200 : decode code 1200 = .ok (.iconst 4, 1) := by decide +kernel
theorem d_LW_1201 : decode code 1201 = .ok (.iadd, 1) := by decide +kernel
theorem d_LW_1202 : decode code 1202 = .ok (.iaload, 1) := by decide +kernel
theorem d_LW_1203 : decode code 1203 = .ok (.invokevirtual 155, 3) := by decide +kernel
theorem d_LW_1206 : decode code 1206 = .ok (.aload_n 2, 1) := by decide +kernel
theorem d_LW_1207 : decode code 1207 = .ok (.aload_n 0, 1) := by decide +kernel
theorem d_LW_1208 : decode code 1208 = .ok (.iload_n 3, 1) := by decide +kernel
theorem d_LW_1209 : decode code 1209 = .ok (.iconst 1, 1) := by decide +kernel
theorem d_LW_1210 : decode code 1210 = .ok (.iadd, 1) := by decide +kernel
theorem d_LW_1211 : decode code 1211 = .ok (.iaload, 1) := by decide +kernel
theorem d_LW_1212 : decode code 1212 = .ok (.aload_n 0, 1) := by decide +kernel
theorem d_LW_1213 : decode code 1213 = .ok (.iload_n 3, 1) := by decide +kernel
theorem d_LW_1214 : decode code 1214 = .ok (.iconst 2, 1) := by decide +kernel
theorem d_LW_1215 : decode code 1215 = .ok (.iadd, 1) := by decide +kernel
theorem d_LW_1216 : decode code 1216 = .ok (.iaload, 1) := by decide +kernel
theorem d_LW_1217 : decode code 1217 = .ok (.aload_n 0, 1) := by decide +kernel
theorem d_LW_1218 : decode code 1218 = .ok (.iload_n 3, 1) := by decide +kernel
theorem d_LW_1219 : decode code 1219 = .ok (.iconst 3, 1) := by decide +kernel
theorem d_LW_1220 : decode code 1220 = .ok (.iadd, 1) := by decide +kernel
theorem d_LW_1221 : decode code 1221 = .ok (.iaload, 1) := by decide +kernel
theorem d_LW_1222 : decode code 1222 = .ok (.aload_n 0, 1) := by decide +kernel
theorem d_LW_1223 : decode code 1223 = .ok (.iload_n 3, 1) := by decide +kernel
theorem d_LW_1224 : decode code 1224 = .ok (.iconst 4, 1) := by decide +kernel
theorem d_LW_1225 : decode code 1225 = .ok (.iadd, 1) := by decide +kernel
theorem d_LW_1226 : decode code 1226 = .ok (.iaload, 1) := by decide +kernel
theorem d_LW_1227 : decode code 1227 = .ok (.invokevirtual 159, 3) := by decide +kernel
theorem d_LW_1230 : decode code 1230 = .ok (.if_icmp .eq 171, 3) := by decide +kernel
theorem d_LW_1233 : decode code 1233 = .ok (.iconst 0, 1) := by decide +kernel
theorem d_LW_1234 : decode code 1234 = .ok (.ireturn, 1) := by decide +kernel
theorem d_LW_1235 : decode code 1235 = .ok (.aload_n 1, 1) := by decide +kernel
theorem d_LW_1236 : decode code 1236 = .ok (.aload_n 0, 1) := by decide +kernel
theorem d_LW_1237 : decode code 1237 = .ok (.iload_n 3, 1) := by decide +kernel
theorem d_LW_1238 : decode code 1238 = .ok (.iconst 1, 1) := by decide +kernel
theorem d_LW_1239 : decode code 1239 = .ok (.iadd, 1) := by decide +kernel
theorem d_LW_1240 : decode code 1240 = .ok (.iaload, 1) := by decide +kernel
theorem d_LW_1241 : decode code 1241 = .ok (.aload_n 0, 1) := by decide +kernel
theorem d_LW_1242 : decode code 1242 = .ok (.iload_n 3, 1) := by decide +kernel
theorem d_LW_1243 : decode code 1243 = .ok (.iconst 2, 1) := by decide +kernel
theorem d_LW_1244 : decode code 1244 = .ok (.iadd, 1) := by decide +kernel
theorem d_LW_1245 : decode code 1245 = .ok (.iaload, 1) := by decide +kernel
theorem d_LW_1246 : decode code 1246 = .ok (.aload_n 0, 1) := by decide +kernel
theorem d_LW_1247 : decode code 1247 = .ok (.iload_n 3, 1) := by decide +kernel
theorem d_LW_1248 : decode code 1248 = .ok (.iconst 3, 1) := by decide +kernel
theorem d_LW_1249 : decode code 1249 = .ok (.iadd, 1) := by decide +kernel
theorem d_LW_1250 : decode code 1250 = .ok (.iaload, 1) := by decide +kernel
theorem d_LW_1251 : decode code 1251 = .ok (.invokevirtual 160, 3) := by decide +kernel
theorem d_LW_1254 : decode code 1254 = .ok (.aload_n 2, 1) := by decide +kernel
theorem d_LW_1255 : decode code 1255 = .ok (.aload_n 0, 1) := by decide +kernel
theorem d_LW_1256 : decode code 1256 = .ok (.iload_n 3, 1) := by decide +kernel
theorem d_LW_1257 : decode code 1257 = .ok (.iconst 1, 1) := by decide +kernel
theorem d_LW_1258 : decode code 1258 = .ok (.iadd, 1) := by decide +kernel
theorem d_LW_1259 : decode code 1259 = .ok (.iaload, 1) := by decide +kernel
theorem d_LW_1260 : decode code 1260 = .ok (.aload_n 0, 1) := by decide +kernel
theorem d_LW_1261 : decode code 1261 = .ok (.iload_n 3, 1) := by decide +kernel
theorem d_LW_1262 : decode code 1262 = .ok (.iconst 2, 1) := by decide +kernel
theorem d_LW_1263 : decode code 1263 = .ok (.iadd, 1) := by decide +kernel
theorem d_LW_1264 : decode code 1264 = .ok (.iaload, 1) := by decide +kernel
theorem d_LW_1265 : decode code 1265 = .ok (.aload_n 0, 1) := by decide +kernel
theorem d_LW_1266 : decode code 1266 = .ok (.iload_n 3, 1) := by decide +kernel
theorem d_LW_1267 : decode code 1267 = .ok (.iconst 3, 1) := by decide +kernel
theorem d_LW_1268 : decode code 1268 = .ok (.iadd, 1) := by decide +kernel
theorem d_LW_1269 : decode code 1269 = .ok (.iaload, 1) := by decide +kernel
theorem d_LW_1270 : decode code 1270 = .ok (.invokevirtual 163, 3) := by decide +kernel
theorem d_LW_1273 : decode code 1273 = .ok (.if_icmp .eq 128, 3) := by decide +kernel
theorem d_LW_1276 : decode code 1276 = .ok (.iconst 0, 1) := by decide +kernel
theorem d_LW_1277 : decode code 1277 = .ok (.ireturn, 1) := by decide +kernel
theorem d_LW_1278 : decode code 1278 = .ok (.aload_n 1, 1) := by decide +kernel
theorem d_LW_1279 : decode code 1279 = .ok (.aload_n 0, 1) := by decide +kernel
theorem d_LW_1280 : decode code 1280 = .ok (.iload_n 3, 1) := by decide +kernel
theorem d_LW_1281 : decode code 1281 = .ok (.iconst 1, 1) := by decide +kernel
theorem d_LW_1282 : decode code 1282 = .ok (.iadd, 1) := by decide +kernel
theorem d_LW_1283 : decode code 1283 = .ok (.iaload, 1) := by decide +kernel
theorem d_LW_1284 : decode code 1284 = .ok (.aload_n 0, 1) := by decide +kernel
theorem d_LW_1285 : decode code 1285 = .ok (.iload_n 3, 1) := by decide +kernel
theorem d_LW_1286 : decode code 1286 = .ok (.iconst 2, 1) := by decide +kernel
theorem d_LW_1287 : decode code 1287 = .ok (.iadd, 1) := by decide +kernel
theorem d_LW_1288 : decode code 1288 = .ok (.iaload, 1) := by decide +kernel
theorem d_LW_1289 : decode code 1289 = .ok (.aload_n 0, 1) := by decide +kernel
theorem d_LW_1290 : decode code 1290 = .ok (.iload_n 3, 1) := by decide +kernel
theorem d_LW_1291 : decode code 1291 = .ok (.iconst 3, 1) := by decide +kernel
theorem d_LW_1292 : decode code 1292 = .ok (.iadd, 1) := by decide +kernel
theorem d_LW_1293 : decode code 1293 = .ok (.iaload, 1) := by decide +kernel
theorem d_LW_1294 : decode code 1294 = .ok (.aload_n 0, 1) := by decide +kernel
theorem d_LW_1295 : decode code 1295 = .ok (.iload_n 3, 1) := by decide +kernel
theorem d_LW_1296 : decode code 1296 = .ok (.iconst 4, 1) := by decide +kernel
theorem d_LW_1297 : decode code 1297 = .ok (.iadd, 1) := by decide +kernel
theorem d_LW_1298 : decode code 1298 = .ok (.iaload, 1) := by decide +kernel
theorem d_LW_1299 : decode code 1299 = .ok (.aload_n 0, 1) := by decide +kernel
theorem d_LW_1300 : decode code 1300 = .ok (.iload_n 3, 1) := by decide +kernel
theorem d_LW_1301 : decode code 1301 = .ok (.iconst 5, 1) := by decide +kernel
theorem d_LW_1302 : decode code 1302 = .ok (.iadd, 1) := by decide +kernel
theorem d_LW_1303 : decode code 1303 = .ok (.iaload, 1) := by decide +kernel
theorem d_LW_1304 : decode code 1304 = .ok (.invokevirtual 164, 3) := by decide +kernel
theorem d_LW_1307 : decode code 1307 = .ok (.aload_n 2, 1) := by decide +kernel
theorem d_LW_1308 : decode code 1308 = .ok (.aload_n 0, 1) := by decide +kernel
theorem d_LW_1309 : decode code 1309 = .ok (.iload_n 3, 1) := by decide +kernel
theorem d_LW_1310 : decode code 1310 = .ok (.iconst 1, 1) := by decide +kernel
theorem d_LW_1311 : decode code 1311 = .ok (.iadd, 1) := by decide +kernel
theorem d_LW_1312 : decode code 1312 = .ok (.iaload, 1) := by decide +kernel
theorem d_LW_1313 : decode code 1313 = .ok (.aload_n 0, 1) := by decide +kernel
theorem d_LW_1314 : decode code 1314 = .ok (.iload_n 3, 1) := by decide +kernel
theorem d_LW_1315 : decode code 1315 = .ok (.iconst 2, 1) := by decide +kernel
theorem d_LW_1316 : decode code 1316 = .ok (.iadd, 1) := by decide +kernel
theorem d_LW_1317 : decode code 1317 = .ok (.iaload, 1) := by decide +kernel
theorem d_LW_1318 : decode code 1318 = .ok (.aload_n 0, 1) := by decide +kernel
theorem d_LW_1319 : decode code 1319 = .ok (.iload_n 3, 1) := by decide +kernel
theorem d_LW_1320 : decode code 1320 = .ok (.iconst 3, 1) := by decide +kernel
theorem d_LW_1321 : decode code 1321 = .ok (.iadd, 1) := by decide +kernel
theorem d_LW_1322 : decode code 1322 = .ok (.iaload, 1) := by decide +kernel
theorem d_LW_1323 : decode code 1323 = .ok (.aload_n 0, 1) := by decide +kernel
theorem d_LW_1324 : decode code 1324 = .ok (.iload_n 3, 1) := by decide +kernel
theorem d_LW_1325 : decode code 1325 = .ok (.iconst 4, 1) := by decide +kernel
theorem d_LW_1326 : decode code 1326 = .ok (.iadd, 1) := by decide +kernel
theorem d_LW_1327 : decode code 1327 = .ok (.iaload, 1) := by decide +kernel
theorem d_LW_1328 : decode code 1328 = .ok (.aload_n 0, 1) := by decide +kernel
theorem d_LW_1329 : decode code 1329 = .ok (.iload_n 3, 1) := by decide +kernel
theorem d_LW_1330 : decode code 1330 = .ok (.iconst 5, 1) := by decide +kernel
theorem d_LW_1331 : decode code 1331 = .ok (.iadd, 1) := by decide +kernel
theorem d_LW_1332 : decode code 1332 = .ok (.iaload, 1) := by decide +kernel
theorem d_LW_1333 : decode code 1333 = .ok (.invokevirtual 168, 3) := by decide +kernel
theorem d_LW_1336 : decode code 1336 = .ok (.if_icmp .eq 65, 3) := by decide +kernel
theorem d_LW_1339 : decode code 1339 = .ok (.iconst 0, 1) := by decide +kernel
theorem d_LW_1340 : decode code 1340 = .ok (.ireturn, 1) := by decide +kernel
theorem d_LW_1341 : decode code 1341 = .ok (.aload_n 1, 1) := by decide +kernel
theorem d_LW_1342 : decode code 1342 = .ok (.aload_n 0, 1) := by decide +kernel
theorem d_LW_1343 : decode code 1343 = .ok (.iload_n 3, 1) := by decide +kernel
theorem d_LW_1344 : decode code 1344 = .ok (.iconst 1, 1) := by decide +kernel
theorem d_LW_1345 : decode code 1345 = .ok (.iadd, 1) := by decide +kernel
theorem d_LW_1346 : decode code 1346 = .ok (.iaload, 1) := by decide +kernel
theorem d_LW_1347 : decode code 1347 = .ok (.invokevirtual 169, 3) := by decide +kernel
theorem d_LW_1350 : decode code 1350 = .ok (.aload_n 2, 1) := by decide +kernel
theorem d_LW_1351 : decode code 1351 = .ok (.aload_n 0, 1) := by decide +kernel
theorem d_LW_1352 : decode code 1352 = .ok (.iload_n 3, 1) := by decide +kernel
theorem d_LW_1353 : decode code 1353 = .ok (.iconst 1, 1) := by decide +kernel
theorem d_LW_1354 : decode code 1354 = .ok (.iadd, 1) := by decide +kernel
theorem d_LW_1355 : decode code 1355 = .ok (.iaload, 1) := by decide +kernel
theorem d_LW_1356 : decode code 1356 = .ok (.invokevirtual 172, 3) := by decide +kernel
theorem d_LW_1359 : decode code 1359 = .ok (.if_icmp .eq 42, 3) := by decide +kernel
theorem d_LW_1362 : decode code 1362 = .ok (.iconst 0, 1) := by decide +kernel
theorem d_LW_1363 : decode code 1363 = .ok (.ireturn, 1) := by decide +kernel
theorem d_LW_1364 : decode code 1364 = .ok (.aload_n 1, 1) := by decide +kernel
theorem d_LW_1365 : decode code 1365 = .ok (.aload_n 0, 1) := by decide +kernel
theorem d_LW_1366 : decode code 1366 = .ok (.iload_n 3, 1) := by decide +kernel
theorem d_LW_1367 : decode code 1367 = .ok (.iconst 1, 1) := by decide +kernel
theorem d_LW_1368 : decode code 1368 = .ok (.iadd, 1) := by decide +kernel
theorem d_LW_1369 : decode code 1369 = .ok (.iaload, 1) := by decide +kernel
theorem d_LW_1370 : decode code 1370 = .ok (.invokevirtual 173, 3) := by decide +kernel
theorem d_LW_1373 : decode code 1373 = .ok (.aload_n 2, 1) := by decide +kernel
theorem d_LW_1374 : decode code 1374 = .ok (.aload_n 0, 1) := by decide +kernel
theorem d_LW_1375 : decode code 1375 = .ok (.iload_n 3, 1) := by decide +kernel
theorem d_LW_1376 : decode code 1376 = .ok (.iconst 1, 1) := by decide +kernel
theorem d_LW_1377 : decode code 1377 = .ok (.iadd, 1) := by decide +kernel
theorem d_LW_1378 : decode code 1378 = .ok (.iaload, 1) := by decide +kernel
theorem d_LW_1379 : decode code 1379 = .ok (.invokevirtual 176, 3) := by decide +kernel
theorem d_LW_1382 : decode code 1382 = .ok (.if_icmp .eq 19, 3) := by decide +kernel
theorem d_LW_1385 : decode code 1385 = .ok (.iconst 0, 1) := by decide +kernel
theorem d_LW_1386 : decode code 1386 = .ok (.ireturn, 1) := by decide +kernel
theorem d_LW_1387 : decode code 1387 = .ok (.aload_n 1, 1) := by decide +kernel
theorem d_LW_1388 : decode code 1388 = .ok (.invokevirtual 177, 3) := by decide +kernel
theorem d_LW_1391 : decode code 1391 = .ok (.aload_n 2, 1) := by decide +kernel
theorem d_LW_1392 : decode code 1392 = .ok (.invokevirtual 181, 3) := by decide +kernel
theorem d_LW_1395 : decode code 1395 = .ok (.lcmp, 1) := by decide +kernel
theorem d_LW_1396 : decode code 1396 = .ok (.ifCond .eq 5, 3) := by decide +kernel
theorem d_LW_1399 : decode code 1399 = .ok (.iconst 0, 1) := by decide +kernel
theorem d_LW_1400 : decode code 1400 = .ok (.ireturn, 1) := by decide +kernel
theorem d_LW_1401 : decode code 1401 = .ok (.iinc 3 6, 3) := by decide +kernel
theorem d_LW_1404 : decode code 1404 = .ok (.goto (-1386), 3) := by decide +kernel
theorem d_LW_1407 : decode code 1407 = .ok (.iconst 1, 1) := by decide +kernel
theorem d_LW_1408 : decode code 1408 = .ok (.ireturn, 1) := by decide +kernel
