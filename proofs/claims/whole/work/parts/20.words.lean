/-! words of the tables by their places; what a call, a field, an array needs -/
theorem q1175 : Cond.methodLink RL 263 yL_without ∈ TG := tg_of (tI6 (List.mem_of_getElem? (i := 130) (by decide +kernel))) (by decide +kernel)
theorem q1176 : Cond.static yL_without ∈ TG := tg_of (tI6 (List.mem_of_getElem? (i := 131) (by decide +kernel))) (by decide +kernel)
theorem q1177 : Cond.initialized RL ∈ TG := tg_of (tI1 (List.mem_of_getElem? (i := 0) (by decide +kernel))) (by decide +kernel)
theorem q1178 : Cond.codeWith yL_without cL_without 5 (some .int) [(0, 10, 13, 13)] ∈ TG := tg_of (tI6 (List.mem_of_getElem? (i := 132) (by decide +kernel))) (by decide +kernel)
theorem q1179 : Cond.methodLink RL 260 yL_depth ∈ TG := tg_of (tI6 (List.mem_of_getElem? (i := 123) (by decide +kernel))) (by decide +kernel)
theorem q1180 : Cond.static yL_depth ∈ TG := tg_of (tI6 (List.mem_of_getElem? (i := 124) (by decide +kernel))) (by decide +kernel)
theorem q1181 : Cond.codeWith yL_depth cL_depth 5 (some .int) [(0, 10, 13, 24)] ∈ TG := tg_of (tI6 (List.mem_of_getElem? (i := 125) (by decide +kernel))) (by decide +kernel)
theorem q1182 : Cond.methodLink RL 257 yL_phrase ∈ TG := tg_of (tI6 (List.mem_of_getElem? (i := 115) (by decide +kernel))) (by decide +kernel)
theorem q1183 : Cond.static yL_phrase ∈ TG := tg_of (tI6 (List.mem_of_getElem? (i := 116) (by decide +kernel))) (by decide +kernel)
theorem q1184 : Cond.codeWith yL_phrase cL_phrase 5 (some .int) [(0, 10, 13, 24)] ∈ TG := tg_of (tI6 (List.mem_of_getElem? (i := 117) (by decide +kernel))) (by decide +kernel)
theorem q1185 : Cond.methodLink RL 254 yL_points ∈ TG := tg_of (tI6 (List.mem_of_getElem? (i := 107) (by decide +kernel))) (by decide +kernel)
theorem q1186 : Cond.static yL_points ∈ TG := tg_of (tI6 (List.mem_of_getElem? (i := 108) (by decide +kernel))) (by decide +kernel)
theorem q1187 : Cond.codeWith yL_points cL_points 5 (some .int) [(0, 10, 13, 24)] ∈ TG := tg_of (tI6 (List.mem_of_getElem? (i := 109) (by decide +kernel))) (by decide +kernel)
theorem q1188 : Cond.methodLink RL 251 yL_rarest ∈ TG := tg_of (tI6 (List.mem_of_getElem? (i := 100) (by decide +kernel))) (by decide +kernel)
theorem q1189 : Cond.static yL_rarest ∈ TG := tg_of (tI6 (List.mem_of_getElem? (i := 101) (by decide +kernel))) (by decide +kernel)
theorem q1190 : Cond.codeWith yL_rarest cL_rarest 4 (some .int) [(0, 9, 12, 24)] ∈ TG := tg_of (tI6 (List.mem_of_getElem? (i := 102) (by decide +kernel))) (by decide +kernel)
theorem q1191 : Cond.methodLink RL 248 yL_nearest ∈ TG := tg_of (tI6 (List.mem_of_getElem? (i := 93) (by decide +kernel))) (by decide +kernel)
theorem q1192 : Cond.static yL_nearest ∈ TG := tg_of (tI6 (List.mem_of_getElem? (i := 94) (by decide +kernel))) (by decide +kernel)
theorem q1193 : Cond.codeWith yL_nearest cL_nearest 4 (some .int) [(0, 9, 12, 24)] ∈ TG := tg_of (tI6 (List.mem_of_getElem? (i := 95) (by decide +kernel))) (by decide +kernel)
theorem q1194 : Cond.methodLink RL 245 yL_spread ∈ TG := tg_of (tI6 (List.mem_of_getElem? (i := 86) (by decide +kernel))) (by decide +kernel)
theorem q1195 : Cond.static yL_spread ∈ TG := tg_of (tI6 (List.mem_of_getElem? (i := 87) (by decide +kernel))) (by decide +kernel)
theorem q1196 : Cond.codeWith yL_spread cL_spread 4 (some .int) [(0, 9, 12, 13)] ∈ TG := tg_of (tI6 (List.mem_of_getElem? (i := 88) (by decide +kernel))) (by decide +kernel)
theorem q1197 : Cond.methodLink RL 238 yL_blockOf ∈ TG := tg_of (tI6 (List.mem_of_getElem? (i := 79) (by decide +kernel))) (by decide +kernel)
theorem q1198 : Cond.static yL_blockOf ∈ TG := tg_of (tI6 (List.mem_of_getElem? (i := 80) (by decide +kernel))) (by decide +kernel)
theorem q1199 : Cond.codeWith yL_blockOf cL_blockOf 5 (some .int) [(0, 10, 13, 24)] ∈ TG := tg_of (tI6 (List.mem_of_getElem? (i := 81) (by decide +kernel))) (by decide +kernel)
theorem q1200 : Cond.methodLink RL 235 yL_swift ∈ TG := tg_of (tI6 (List.mem_of_getElem? (i := 68) (by decide +kernel))) (by decide +kernel)
theorem q1201 : Cond.static yL_swift ∈ TG := tg_of (tI6 (List.mem_of_getElem? (i := 69) (by decide +kernel))) (by decide +kernel)
theorem q1202 : Cond.codeWith yL_swift cL_swift 5 (some .int) [(0, 10, 13, 13)] ∈ TG := tg_of (tI6 (List.mem_of_getElem? (i := 70) (by decide +kernel))) (by decide +kernel)
theorem q1203 : Cond.methodLink RL 228 yL_bits ∈ TG := tg_of (tI6 (List.mem_of_getElem? (i := 61) (by decide +kernel))) (by decide +kernel)
theorem q1204 : Cond.static yL_bits ∈ TG := tg_of (tI6 (List.mem_of_getElem? (i := 62) (by decide +kernel))) (by decide +kernel)
theorem q1205 : Cond.codeWith yL_bits cL_bits 4 (some .int) [(0, 9, 12, 13)] ∈ TG := tg_of (tI6 (List.mem_of_getElem? (i := 63) (by decide +kernel))) (by decide +kernel)
theorem q1206 : Cond.methodLink RL 225 yL_inside ∈ TG := tg_of (tI6 (List.mem_of_getElem? (i := 53) (by decide +kernel))) (by decide +kernel)
theorem q1207 : Cond.static yL_inside ∈ TG := tg_of (tI6 (List.mem_of_getElem? (i := 54) (by decide +kernel))) (by decide +kernel)
theorem q1208 : Cond.codeWith yL_inside cL_inside 5 (some .int) [(0, 10, 13, 24)] ∈ TG := tg_of (tI6 (List.mem_of_getElem? (i := 55) (by decide +kernel))) (by decide +kernel)
theorem q1209 : Cond.methodLink RL 222 yL_opened ∈ TG := tg_of (tI6 (List.mem_of_getElem? (i := 42) (by decide +kernel))) (by decide +kernel)
theorem q1210 : Cond.static yL_opened ∈ TG := tg_of (tI6 (List.mem_of_getElem? (i := 43) (by decide +kernel))) (by decide +kernel)
theorem q1211 : Cond.codeWith yL_opened cL_opened 6 (some .int) [(0, 12, 15, 24), (0, 12, 19, 13)] ∈ TG := tg_of (tI6 (List.mem_of_getElem? (i := 44) (by decide +kernel))) (by decide +kernel)
theorem q1212 : Cond.methodLink RL 219 yL_best ∈ TG := tg_of (tI6 (List.mem_of_getElem? (i := 35) (by decide +kernel))) (by decide +kernel)
theorem q1213 : Cond.static yL_best ∈ TG := tg_of (tI6 (List.mem_of_getElem? (i := 36) (by decide +kernel))) (by decide +kernel)
theorem q1214 : Cond.codeWith yL_best cL_best 5 (some .int) [(0, 10, 13, 13)] ∈ TG := tg_of (tI6 (List.mem_of_getElem? (i := 37) (by decide +kernel))) (by decide +kernel)
theorem q1215 : Cond.methodLink RL 216 yL_early ∈ TG := tg_of (tI5 (List.mem_of_getElem? (i := 165) (by decide +kernel))) (by decide +kernel)
theorem q1216 : Cond.static yL_early ∈ TG := tg_of (tI5 (List.mem_of_getElem? (i := 166) (by decide +kernel))) (by decide +kernel)
theorem q1217 : Cond.codeWith yL_early cL_early 5 (some .int) [(0, 10, 13, 13)] ∈ TG := tg_of (tI5 (List.mem_of_getElem? (i := 167) (by decide +kernel))) (by decide +kernel)
theorem q1218 : Cond.methodLink RL 213 yL_place ∈ TG := tg_of (tI5 (List.mem_of_getElem? (i := 154) (by decide +kernel))) (by decide +kernel)
theorem q1219 : Cond.static yL_place ∈ TG := tg_of (tI5 (List.mem_of_getElem? (i := 155) (by decide +kernel))) (by decide +kernel)
theorem q1220 : Cond.codeWith yL_place cL_place 4 (some .int) [(0, 9, 12, 24)] ∈ TG := tg_of (tI5 (List.mem_of_getElem? (i := 156) (by decide +kernel))) (by decide +kernel)
theorem q1221 : Cond.methodLink RL 210 yL_answer ∈ TG := tg_of (tI5 (List.mem_of_getElem? (i := 147) (by decide +kernel))) (by decide +kernel)
theorem q1222 : Cond.static yL_answer ∈ TG := tg_of (tI5 (List.mem_of_getElem? (i := 148) (by decide +kernel))) (by decide +kernel)
theorem q1223 : Cond.codeWith yL_answer cL_answer 5 (some .int) [(0, 10, 13, 24), (0, 10, 17, 13)] ∈ TG := tg_of (tI5 (List.mem_of_getElem? (i := 149) (by decide +kernel))) (by decide +kernel)
theorem q1224 : Cond.methodLink RL 203 yL_window ∈ TG := tg_of (tI5 (List.mem_of_getElem? (i := 128) (by decide +kernel))) (by decide +kernel)
theorem q1225 : Cond.static yL_window ∈ TG := tg_of (tI5 (List.mem_of_getElem? (i := 129) (by decide +kernel))) (by decide +kernel)
theorem q1226 : Cond.codeWith yL_window cL_window 5 (some .int) [(0, 10, 13, 24), (0, 10, 17, 13)] ∈ TG := tg_of (tI5 (List.mem_of_getElem? (i := 130) (by decide +kernel))) (by decide +kernel)
theorem q1227 : Cond.methodLink RL 200 yL_near ∈ TG := tg_of (tI5 (List.mem_of_getElem? (i := 120) (by decide +kernel))) (by decide +kernel)
theorem q1228 : Cond.static yL_near ∈ TG := tg_of (tI5 (List.mem_of_getElem? (i := 121) (by decide +kernel))) (by decide +kernel)
theorem q1229 : Cond.codeWith yL_near cL_near 4 (some .int) [(0, 9, 12, 24)] ∈ TG := tg_of (tI5 (List.mem_of_getElem? (i := 122) (by decide +kernel))) (by decide +kernel)
theorem q1230 : Cond.methodLink RL 197 yL_score ∈ TG := tg_of (tI5 (List.mem_of_getElem? (i := 112) (by decide +kernel))) (by decide +kernel)
theorem q1231 : Cond.static yL_score ∈ TG := tg_of (tI5 (List.mem_of_getElem? (i := 113) (by decide +kernel))) (by decide +kernel)
theorem q1232 : Cond.codeWith yL_score cL_score 4 (some .int) [(0, 9, 12, 24)] ∈ TG := tg_of (tI5 (List.mem_of_getElem? (i := 114) (by decide +kernel))) (by decide +kernel)
theorem q1233 : Cond.methodLink RL 194 yL_why ∈ TG := tg_of (tI5 (List.mem_of_getElem? (i := 104) (by decide +kernel))) (by decide +kernel)
theorem q1234 : Cond.static yL_why ∈ TG := tg_of (tI5 (List.mem_of_getElem? (i := 105) (by decide +kernel))) (by decide +kernel)
theorem q1235 : Cond.codeWith yL_why cL_why 4 (some .int) [(0, 9, 12, 24)] ∈ TG := tg_of (tI5 (List.mem_of_getElem? (i := 106) (by decide +kernel))) (by decide +kernel)
theorem q1236 : Cond.methodLink RL 191 yL_scored ∈ TG := tg_of (tI5 (List.mem_of_getElem? (i := 93) (by decide +kernel))) (by decide +kernel)
theorem q1237 : Cond.static yL_scored ∈ TG := tg_of (tI5 (List.mem_of_getElem? (i := 94) (by decide +kernel))) (by decide +kernel)
theorem q1238 : Cond.codeWith yL_scored cL_scored 5 (some .int) [(0, 10, 13, 13)] ∈ TG := tg_of (tI5 (List.mem_of_getElem? (i := 95) (by decide +kernel))) (by decide +kernel)
theorem q1239 : Cond.methodLink RL 188 yL_alike ∈ TG := tg_of (tI5 (List.mem_of_getElem? (i := 85) (by decide +kernel))) (by decide +kernel)
theorem q1240 : Cond.static yL_alike ∈ TG := tg_of (tI5 (List.mem_of_getElem? (i := 86) (by decide +kernel))) (by decide +kernel)
theorem q1241 : Cond.codeWith yL_alike cL_alike 5 (some .int) [(0, 10, 13, 24)] ∈ TG := tg_of (tI5 (List.mem_of_getElem? (i := 87) (by decide +kernel))) (by decide +kernel)
theorem q1242 : Cond.methodLink RL 185 yL_common ∈ TG := tg_of (tI5 (List.mem_of_getElem? (i := 74) (by decide +kernel))) (by decide +kernel)
theorem q1243 : Cond.static yL_common ∈ TG := tg_of (tI5 (List.mem_of_getElem? (i := 75) (by decide +kernel))) (by decide +kernel)
theorem q1244 : Cond.codeWith yL_common cL_common 4 (some .int) [(0, 9, 12, 24)] ∈ TG := tg_of (tI5 (List.mem_of_getElem? (i := 76) (by decide +kernel))) (by decide +kernel)
theorem q1245 : Cond.methodLink RL 182 yL_position ∈ TG := tg_of (tI5 (List.mem_of_getElem? (i := 63) (by decide +kernel))) (by decide +kernel)
theorem q1246 : Cond.static yL_position ∈ TG := tg_of (tI5 (List.mem_of_getElem? (i := 64) (by decide +kernel))) (by decide +kernel)
theorem q1247 : Cond.codeWith yL_position cL_position 6 (some .int) [(0, 12, 15, 24)] ∈ TG := tg_of (tI5 (List.mem_of_getElem? (i := 65) (by decide +kernel))) (by decide +kernel)
theorem q1248 : Cond.methodLink RL 179 yL_posting ∈ TG := tg_of (tI5 (List.mem_of_getElem? (i := 47) (by decide +kernel))) (by decide +kernel)
theorem q1249 : Cond.static yL_posting ∈ TG := tg_of (tI5 (List.mem_of_getElem? (i := 48) (by decide +kernel))) (by decide +kernel)
theorem q1250 : Cond.codeWith yL_posting cL_posting 6 (some .int) [(0, 12, 15, 24), (0, 12, 19, 13)] ∈ TG := tg_of (tI5 (List.mem_of_getElem? (i := 49) (by decide +kernel))) (by decide +kernel)
theorem q1251 : Cond.methodLink RL 175 yL_block ∈ TG := tg_of (tI5 (List.mem_of_getElem? (i := 35) (by decide +kernel))) (by decide +kernel)
theorem q1252 : Cond.static yL_block ∈ TG := tg_of (tI5 (List.mem_of_getElem? (i := 36) (by decide +kernel))) (by decide +kernel)
theorem q1253 : Cond.codeWith yL_block cL_block 6 (some .int) [(0, 12, 15, 24), (0, 12, 19, 13)] ∈ TG := tg_of (tI5 (List.mem_of_getElem? (i := 37) (by decide +kernel))) (by decide +kernel)
theorem q1254 : Cond.methodLink RL 172 yL_letter ∈ TG := tg_of (tI5 (List.mem_of_getElem? (i := 23) (by decide +kernel))) (by decide +kernel)
theorem q1255 : Cond.static yL_letter ∈ TG := tg_of (tI5 (List.mem_of_getElem? (i := 24) (by decide +kernel))) (by decide +kernel)
theorem q1256 : Cond.codeWith yL_letter cL_letter 5 (some .int) [(0, 10, 13, 24)] ∈ TG := tg_of (tI5 (List.mem_of_getElem? (i := 25) (by decide +kernel))) (by decide +kernel)
theorem q1257 : Cond.methodLink RL 169 yL_word ∈ TG := tg_of (tI4 (List.mem_of_getElem? (i := 235) (by decide +kernel))) (by decide +kernel)
theorem q1258 : Cond.static yL_word ∈ TG := tg_of (tI4 (List.mem_of_getElem? (i := 236) (by decide +kernel))) (by decide +kernel)
theorem q1259 : Cond.codeWith yL_word cL_word 5 (some .int) [(0, 10, 13, 24), (0, 10, 17, 13)] ∈ TG := tg_of (tI4 (List.mem_of_getElem? (i := 237) (by decide +kernel))) (by decide +kernel)
theorem q1260 : Cond.methodLink RL 166 yL_at ∈ TG := tg_of (tI4 (List.mem_of_getElem? (i := 228) (by decide +kernel))) (by decide +kernel)
theorem q1261 : Cond.static yL_at ∈ TG := tg_of (tI4 (List.mem_of_getElem? (i := 229) (by decide +kernel))) (by decide +kernel)
theorem q1262 : Cond.codeWith yL_at cL_at 5 (some .int) [(0, 10, 13, 24)] ∈ TG := tg_of (tI4 (List.mem_of_getElem? (i := 230) (by decide +kernel))) (by decide +kernel)
theorem q1263 : Cond.methodLink RL 162 yL_document ∈ TG := tg_of (tI4 (List.mem_of_getElem? (i := 209) (by decide +kernel))) (by decide +kernel)
theorem q1264 : Cond.static yL_document ∈ TG := tg_of (tI4 (List.mem_of_getElem? (i := 210) (by decide +kernel))) (by decide +kernel)
theorem q1265 : Cond.codeWith yL_document cL_document 5 (some .int) [(0, 10, 13, 24), (0, 10, 17, 13)] ∈ TG := tg_of (tI4 (List.mem_of_getElem? (i := 211) (by decide +kernel))) (by decide +kernel)
theorem q1266 : Cond.methodLink RL 159 yL_told ∈ TG := tg_of (tI4 (List.mem_of_getElem? (i := 194) (by decide +kernel))) (by decide +kernel)
theorem q1267 : Cond.static yL_told ∈ TG := tg_of (tI4 (List.mem_of_getElem? (i := 195) (by decide +kernel))) (by decide +kernel)
theorem q1268 : Cond.codeWith yL_told cL_told 4 (some .int) [(0, 9, 12, 13)] ∈ TG := tg_of (tI4 (List.mem_of_getElem? (i := 196) (by decide +kernel))) (by decide +kernel)
theorem q1269 : Cond.methodLink RL 156 yL_repack ∈ TG := tg_of (tI4 (List.mem_of_getElem? (i := 174) (by decide +kernel))) (by decide +kernel)
theorem q1270 : Cond.static yL_repack ∈ TG := tg_of (tI4 (List.mem_of_getElem? (i := 175) (by decide +kernel))) (by decide +kernel)
theorem q1271 : Cond.codeWith yL_repack cL_repack 4 (some .int) [(0, 9, 12, 13)] ∈ TG := tg_of (tI4 (List.mem_of_getElem? (i := 176) (by decide +kernel))) (by decide +kernel)
theorem q1272 : Cond.methodLink RL 153 yL_remove ∈ TG := tg_of (tI4 (List.mem_of_getElem? (i := 138) (by decide +kernel))) (by decide +kernel)
theorem q1273 : Cond.static yL_remove ∈ TG := tg_of (tI4 (List.mem_of_getElem? (i := 139) (by decide +kernel))) (by decide +kernel)
theorem q1274 : Cond.codeWith yL_remove cL_remove 4 (some .int) [(0, 9, 12, 24)] ∈ TG := tg_of (tI4 (List.mem_of_getElem? (i := 140) (by decide +kernel))) (by decide +kernel)
theorem q1275 : Cond.methodLink RL 150 yL_find ∈ TG := tg_of (tI4 (List.mem_of_getElem? (i := 124) (by decide +kernel))) (by decide +kernel)
theorem q1276 : Cond.static yL_find ∈ TG := tg_of (tI4 (List.mem_of_getElem? (i := 125) (by decide +kernel))) (by decide +kernel)
theorem q1277 : Cond.codeWith yL_find cL_find 4 (some .int) [(0, 9, 12, 13)] ∈ TG := tg_of (tI4 (List.mem_of_getElem? (i := 126) (by decide +kernel))) (by decide +kernel)
theorem q1278 : Cond.methodLink RL 143 yL_ask ∈ TG := tg_of (tI4 (List.mem_of_getElem? (i := 34) (by decide +kernel))) (by decide +kernel)
theorem q1279 : Cond.static yL_ask ∈ TG := tg_of (tI4 (List.mem_of_getElem? (i := 35) (by decide +kernel))) (by decide +kernel)
theorem q1280 : Cond.codeWith yL_ask cL_ask 4 (some .int) [(0, 9, 12, 13)] ∈ TG := tg_of (tI4 (List.mem_of_getElem? (i := 36) (by decide +kernel))) (by decide +kernel)
theorem q1281 : Cond.methodLink RL 133 yL_add ∈ TG := tg_of (tI3 (List.mem_of_getElem? (i := 152) (by decide +kernel))) (by decide +kernel)
theorem q1282 : Cond.static yL_add ∈ TG := tg_of (tI3 (List.mem_of_getElem? (i := 153) (by decide +kernel))) (by decide +kernel)
theorem q1283 : Cond.codeWith yL_add cL_add 4 (some .int) [(0, 9, 12, 13)] ∈ TG := tg_of (tI3 (List.mem_of_getElem? (i := 154) (by decide +kernel))) (by decide +kernel)
theorem q1284 : Cond.code yX10_status cX10_status 2 (some .int) ∈ TG := tg_of (tI3 (List.mem_of_getElem? (i := 151) (by decide +kernel))) (by decide +kernel)
theorem q1285 : Cond.methodLink RL 266 yX10_status ∈ TG := tg_of (tI3 (List.mem_of_getElem? (i := 148) (by decide +kernel))) (by decide +kernel)
theorem q1286 : Cond.instanceMethod yX10_status ∈ TG := tg_of (tI3 (List.mem_of_getElem? (i := 149) (by decide +kernel))) (by decide +kernel)
theorem q1287 : Cond.selects RX10 yX10_status yX10_status ∈ TG := tg_of (tI3 (List.mem_of_getElem? (i := 150) (by decide +kernel))) (by decide +kernel)
theorem q1288 : Cond.code yX11_status cX11_status 2 (some .int) ∈ TG := tg_of (tI9 (List.mem_of_getElem? (i := 83) (by decide +kernel))) (by decide +kernel)
theorem q1289 : Cond.methodLink RL 269 yX11_status ∈ TG := tg_of (tI9 (List.mem_of_getElem? (i := 80) (by decide +kernel))) (by decide +kernel)
theorem q1290 : Cond.instanceMethod yX11_status ∈ TG := tg_of (tI9 (List.mem_of_getElem? (i := 81) (by decide +kernel))) (by decide +kernel)
theorem q1291 : Cond.selects RX11 yX11_status yX11_status ∈ TG := tg_of (tI9 (List.mem_of_getElem? (i := 82) (by decide +kernel))) (by decide +kernel)
theorem q1292 : Cond.code yX11_without cX11_without 8 (some .int) ∈ TG := tg_of (tI9 (List.mem_of_getElem? (i := 79) (by decide +kernel))) (by decide +kernel)
theorem q1293 : Cond.methodLink RL 265 yX11_without ∈ TG := tg_of (tI9 (List.mem_of_getElem? (i := 76) (by decide +kernel))) (by decide +kernel)
theorem q1294 : Cond.instanceMethod yX11_without ∈ TG := tg_of (tI9 (List.mem_of_getElem? (i := 77) (by decide +kernel))) (by decide +kernel)
theorem q1295 : Cond.selects RX11 yX11_without yX11_without ∈ TG := tg_of (tI9 (List.mem_of_getElem? (i := 78) (by decide +kernel))) (by decide +kernel)
theorem q1296 : Cond.code yX11_thrown cX11_thrown 1 (some .int) ∈ TG := tg_of (tI7 (List.mem_of_getElem? (i := 103) (by decide +kernel))) (by decide +kernel)
theorem q1297 : Cond.methodLink RL 139 yX11_thrown ∈ TG := tg_of (tI7 (List.mem_of_getElem? (i := 100) (by decide +kernel))) (by decide +kernel)
theorem q1298 : Cond.instanceMethod yX11_thrown ∈ TG := tg_of (tI7 (List.mem_of_getElem? (i := 101) (by decide +kernel))) (by decide +kernel)
theorem q1299 : Cond.selects RX11 yX11_thrown yX11_thrown ∈ TG := tg_of (tI7 (List.mem_of_getElem? (i := 102) (by decide +kernel))) (by decide +kernel)
theorem q1300 : Cond.code yX11_depth cX11_depth 5 (some .int) ∈ TG := tg_of (tI9 (List.mem_of_getElem? (i := 75) (by decide +kernel))) (by decide +kernel)
theorem q1301 : Cond.methodLink RL 262 yX11_depth ∈ TG := tg_of (tI9 (List.mem_of_getElem? (i := 72) (by decide +kernel))) (by decide +kernel)
theorem q1302 : Cond.instanceMethod yX11_depth ∈ TG := tg_of (tI9 (List.mem_of_getElem? (i := 73) (by decide +kernel))) (by decide +kernel)
theorem q1303 : Cond.selects RX11 yX11_depth yX11_depth ∈ TG := tg_of (tI9 (List.mem_of_getElem? (i := 74) (by decide +kernel))) (by decide +kernel)
theorem q1304 : Cond.code yX11_phrase cX11_phrase 3 (some .int) ∈ TG := tg_of (tI9 (List.mem_of_getElem? (i := 71) (by decide +kernel))) (by decide +kernel)
theorem q1305 : Cond.methodLink RL 259 yX11_phrase ∈ TG := tg_of (tI9 (List.mem_of_getElem? (i := 68) (by decide +kernel))) (by decide +kernel)
theorem q1306 : Cond.instanceMethod yX11_phrase ∈ TG := tg_of (tI9 (List.mem_of_getElem? (i := 69) (by decide +kernel))) (by decide +kernel)
theorem q1307 : Cond.selects RX11 yX11_phrase yX11_phrase ∈ TG := tg_of (tI9 (List.mem_of_getElem? (i := 70) (by decide +kernel))) (by decide +kernel)
theorem q1308 : Cond.code yX11_points cX11_points 3 (some .int) ∈ TG := tg_of (tI9 (List.mem_of_getElem? (i := 67) (by decide +kernel))) (by decide +kernel)
theorem q1309 : Cond.methodLink RL 256 yX11_points ∈ TG := tg_of (tI9 (List.mem_of_getElem? (i := 64) (by decide +kernel))) (by decide +kernel)
theorem q1310 : Cond.instanceMethod yX11_points ∈ TG := tg_of (tI9 (List.mem_of_getElem? (i := 65) (by decide +kernel))) (by decide +kernel)
theorem q1311 : Cond.selects RX11 yX11_points yX11_points ∈ TG := tg_of (tI9 (List.mem_of_getElem? (i := 66) (by decide +kernel))) (by decide +kernel)
theorem q1312 : Cond.code yX11_rarest cX11_rarest 6 (some .int) ∈ TG := tg_of (tI9 (List.mem_of_getElem? (i := 63) (by decide +kernel))) (by decide +kernel)
theorem q1313 : Cond.methodLink RL 253 yX11_rarest ∈ TG := tg_of (tI9 (List.mem_of_getElem? (i := 60) (by decide +kernel))) (by decide +kernel)
theorem q1314 : Cond.instanceMethod yX11_rarest ∈ TG := tg_of (tI9 (List.mem_of_getElem? (i := 61) (by decide +kernel))) (by decide +kernel)
theorem q1315 : Cond.selects RX11 yX11_rarest yX11_rarest ∈ TG := tg_of (tI9 (List.mem_of_getElem? (i := 62) (by decide +kernel))) (by decide +kernel)
theorem q1316 : Cond.code yX11_nearest cX11_nearest 4 (some .int) ∈ TG := tg_of (tI9 (List.mem_of_getElem? (i := 59) (by decide +kernel))) (by decide +kernel)
theorem q1317 : Cond.methodLink RL 250 yX11_nearest ∈ TG := tg_of (tI9 (List.mem_of_getElem? (i := 56) (by decide +kernel))) (by decide +kernel)
theorem q1318 : Cond.instanceMethod yX11_nearest ∈ TG := tg_of (tI9 (List.mem_of_getElem? (i := 57) (by decide +kernel))) (by decide +kernel)
theorem q1319 : Cond.selects RX11 yX11_nearest yX11_nearest ∈ TG := tg_of (tI9 (List.mem_of_getElem? (i := 58) (by decide +kernel))) (by decide +kernel)
theorem q1320 : Cond.code yX11_spread cX11_spread 4 (some .int) ∈ TG := tg_of (tI9 (List.mem_of_getElem? (i := 55) (by decide +kernel))) (by decide +kernel)
theorem q1321 : Cond.methodLink RL 247 yX11_spread ∈ TG := tg_of (tI9 (List.mem_of_getElem? (i := 52) (by decide +kernel))) (by decide +kernel)
theorem q1322 : Cond.instanceMethod yX11_spread ∈ TG := tg_of (tI9 (List.mem_of_getElem? (i := 53) (by decide +kernel))) (by decide +kernel)
theorem q1323 : Cond.selects RX11 yX11_spread yX11_spread ∈ TG := tg_of (tI9 (List.mem_of_getElem? (i := 54) (by decide +kernel))) (by decide +kernel)
theorem q1324 : Cond.code yX10_full cX10_full 3 (some .int) ∈ TG := tg_of (tI3 (List.mem_of_getElem? (i := 141) (by decide +kernel))) (by decide +kernel)
theorem q1325 : Cond.methodLink RL 241 yX10_full ∈ TG := tg_of (tI3 (List.mem_of_getElem? (i := 138) (by decide +kernel))) (by decide +kernel)
theorem q1326 : Cond.instanceMethod yX10_full ∈ TG := tg_of (tI3 (List.mem_of_getElem? (i := 139) (by decide +kernel))) (by decide +kernel)
theorem q1327 : Cond.selects RX10 yX10_full yX10_full ∈ TG := tg_of (tI3 (List.mem_of_getElem? (i := 140) (by decide +kernel))) (by decide +kernel)
theorem q1328 : Cond.code yX11_full cX11_full 5 (some .int) ∈ TG := tg_of (tI9 (List.mem_of_getElem? (i := 51) (by decide +kernel))) (by decide +kernel)
theorem q1329 : Cond.methodLink RL 244 yX11_full ∈ TG := tg_of (tI9 (List.mem_of_getElem? (i := 48) (by decide +kernel))) (by decide +kernel)
theorem q1330 : Cond.instanceMethod yX11_full ∈ TG := tg_of (tI9 (List.mem_of_getElem? (i := 49) (by decide +kernel))) (by decide +kernel)
theorem q1331 : Cond.selects RX11 yX11_full yX11_full ∈ TG := tg_of (tI9 (List.mem_of_getElem? (i := 50) (by decide +kernel))) (by decide +kernel)
theorem q1332 : Cond.code yX11_blockOf cX11_blockOf 4 (some .int) ∈ TG := tg_of (tI9 (List.mem_of_getElem? (i := 47) (by decide +kernel))) (by decide +kernel)
theorem q1333 : Cond.methodLink RL 240 yX11_blockOf ∈ TG := tg_of (tI9 (List.mem_of_getElem? (i := 44) (by decide +kernel))) (by decide +kernel)
theorem q1334 : Cond.instanceMethod yX11_blockOf ∈ TG := tg_of (tI9 (List.mem_of_getElem? (i := 45) (by decide +kernel))) (by decide +kernel)
theorem q1335 : Cond.selects RX11 yX11_blockOf yX11_blockOf ∈ TG := tg_of (tI9 (List.mem_of_getElem? (i := 46) (by decide +kernel))) (by decide +kernel)
theorem q1336 : Cond.code yX11_swift cX11_swift 6 (some .int) ∈ TG := tg_of (tI9 (List.mem_of_getElem? (i := 43) (by decide +kernel))) (by decide +kernel)
theorem q1337 : Cond.methodLink RL 237 yX11_swift ∈ TG := tg_of (tI9 (List.mem_of_getElem? (i := 40) (by decide +kernel))) (by decide +kernel)
theorem q1338 : Cond.instanceMethod yX11_swift ∈ TG := tg_of (tI9 (List.mem_of_getElem? (i := 41) (by decide +kernel))) (by decide +kernel)
theorem q1339 : Cond.selects RX11 yX11_swift yX11_swift ∈ TG := tg_of (tI9 (List.mem_of_getElem? (i := 42) (by decide +kernel))) (by decide +kernel)
theorem q1340 : Cond.code yX10_thrift cX10_thrift 5 (some .int) ∈ TG := tg_of (tI3 (List.mem_of_getElem? (i := 114) (by decide +kernel))) (by decide +kernel)
theorem q1341 : Cond.methodLink RL 231 yX10_thrift ∈ TG := tg_of (tI3 (List.mem_of_getElem? (i := 111) (by decide +kernel))) (by decide +kernel)
theorem q1342 : Cond.instanceMethod yX10_thrift ∈ TG := tg_of (tI3 (List.mem_of_getElem? (i := 112) (by decide +kernel))) (by decide +kernel)
theorem q1343 : Cond.selects RX10 yX10_thrift yX10_thrift ∈ TG := tg_of (tI3 (List.mem_of_getElem? (i := 113) (by decide +kernel))) (by decide +kernel)
theorem q1344 : Cond.code yX11_thrift cX11_thrift 3 (some .int) ∈ TG := tg_of (tI9 (List.mem_of_getElem? (i := 39) (by decide +kernel))) (by decide +kernel)
theorem q1345 : Cond.methodLink RL 234 yX11_thrift ∈ TG := tg_of (tI9 (List.mem_of_getElem? (i := 36) (by decide +kernel))) (by decide +kernel)
theorem q1346 : Cond.instanceMethod yX11_thrift ∈ TG := tg_of (tI9 (List.mem_of_getElem? (i := 37) (by decide +kernel))) (by decide +kernel)
theorem q1347 : Cond.selects RX11 yX11_thrift yX11_thrift ∈ TG := tg_of (tI9 (List.mem_of_getElem? (i := 38) (by decide +kernel))) (by decide +kernel)
theorem q1348 : Cond.code yX11_bits cX11_bits 2 (some .int) ∈ TG := tg_of (tI9 (List.mem_of_getElem? (i := 35) (by decide +kernel))) (by decide +kernel)
theorem q1349 : Cond.methodLink RL 230 yX11_bits ∈ TG := tg_of (tI9 (List.mem_of_getElem? (i := 32) (by decide +kernel))) (by decide +kernel)
theorem q1350 : Cond.instanceMethod yX11_bits ∈ TG := tg_of (tI9 (List.mem_of_getElem? (i := 33) (by decide +kernel))) (by decide +kernel)
theorem q1351 : Cond.selects RX11 yX11_bits yX11_bits ∈ TG := tg_of (tI9 (List.mem_of_getElem? (i := 34) (by decide +kernel))) (by decide +kernel)
theorem q1352 : Cond.code yX11_inside cX11_inside 5 (some .int) ∈ TG := tg_of (tI9 (List.mem_of_getElem? (i := 31) (by decide +kernel))) (by decide +kernel)
theorem q1353 : Cond.methodLink RL 227 yX11_inside ∈ TG := tg_of (tI9 (List.mem_of_getElem? (i := 28) (by decide +kernel))) (by decide +kernel)
theorem q1354 : Cond.instanceMethod yX11_inside ∈ TG := tg_of (tI9 (List.mem_of_getElem? (i := 29) (by decide +kernel))) (by decide +kernel)
theorem q1355 : Cond.selects RX11 yX11_inside yX11_inside ∈ TG := tg_of (tI9 (List.mem_of_getElem? (i := 30) (by decide +kernel))) (by decide +kernel)
theorem q1356 : Cond.code yX11_opened cX11_opened 5 (some .int) ∈ TG := tg_of (tI9 (List.mem_of_getElem? (i := 27) (by decide +kernel))) (by decide +kernel)
theorem q1357 : Cond.methodLink RL 224 yX11_opened ∈ TG := tg_of (tI9 (List.mem_of_getElem? (i := 24) (by decide +kernel))) (by decide +kernel)
theorem q1358 : Cond.instanceMethod yX11_opened ∈ TG := tg_of (tI9 (List.mem_of_getElem? (i := 25) (by decide +kernel))) (by decide +kernel)
theorem q1359 : Cond.selects RX11 yX11_opened yX11_opened ∈ TG := tg_of (tI9 (List.mem_of_getElem? (i := 26) (by decide +kernel))) (by decide +kernel)
theorem q1360 : Cond.code yX11_best cX11_best 3 (some .int) ∈ TG := tg_of (tI9 (List.mem_of_getElem? (i := 23) (by decide +kernel))) (by decide +kernel)
theorem q1361 : Cond.methodLink RL 221 yX11_best ∈ TG := tg_of (tI9 (List.mem_of_getElem? (i := 20) (by decide +kernel))) (by decide +kernel)
theorem q1362 : Cond.instanceMethod yX11_best ∈ TG := tg_of (tI9 (List.mem_of_getElem? (i := 21) (by decide +kernel))) (by decide +kernel)
theorem q1363 : Cond.selects RX11 yX11_best yX11_best ∈ TG := tg_of (tI9 (List.mem_of_getElem? (i := 22) (by decide +kernel))) (by decide +kernel)
theorem q1364 : Cond.code yX11_early cX11_early 3 (some .int) ∈ TG := tg_of (tI8 (List.mem_of_getElem? (i := 183) (by decide +kernel))) (by decide +kernel)
theorem q1365 : Cond.methodLink RL 218 yX11_early ∈ TG := tg_of (tI8 (List.mem_of_getElem? (i := 180) (by decide +kernel))) (by decide +kernel)
theorem q1366 : Cond.instanceMethod yX11_early ∈ TG := tg_of (tI8 (List.mem_of_getElem? (i := 181) (by decide +kernel))) (by decide +kernel)
theorem q1367 : Cond.selects RX11 yX11_early yX11_early ∈ TG := tg_of (tI8 (List.mem_of_getElem? (i := 182) (by decide +kernel))) (by decide +kernel)
theorem q1368 : Cond.code yX11_place cX11_place 3 (some .int) ∈ TG := tg_of (tI8 (List.mem_of_getElem? (i := 179) (by decide +kernel))) (by decide +kernel)
theorem q1369 : Cond.methodLink RL 215 yX11_place ∈ TG := tg_of (tI8 (List.mem_of_getElem? (i := 176) (by decide +kernel))) (by decide +kernel)
theorem q1370 : Cond.instanceMethod yX11_place ∈ TG := tg_of (tI8 (List.mem_of_getElem? (i := 177) (by decide +kernel))) (by decide +kernel)
theorem q1371 : Cond.selects RX11 yX11_place yX11_place ∈ TG := tg_of (tI8 (List.mem_of_getElem? (i := 178) (by decide +kernel))) (by decide +kernel)
theorem q1372 : Cond.code yX11_answer cX11_answer 3 (some .int) ∈ TG := tg_of (tI8 (List.mem_of_getElem? (i := 175) (by decide +kernel))) (by decide +kernel)
theorem q1373 : Cond.methodLink RL 212 yX11_answer ∈ TG := tg_of (tI8 (List.mem_of_getElem? (i := 172) (by decide +kernel))) (by decide +kernel)
theorem q1374 : Cond.instanceMethod yX11_answer ∈ TG := tg_of (tI8 (List.mem_of_getElem? (i := 173) (by decide +kernel))) (by decide +kernel)
theorem q1375 : Cond.selects RX11 yX11_answer yX11_answer ∈ TG := tg_of (tI8 (List.mem_of_getElem? (i := 174) (by decide +kernel))) (by decide +kernel)
theorem q1376 : Cond.code yX10_answers cX10_answers 1 (some .int) ∈ TG := tg_of (tI3 (List.mem_of_getElem? (i := 33) (by decide +kernel))) (by decide +kernel)
theorem q1377 : Cond.methodLink RL 206 yX10_answers ∈ TG := tg_of (tI3 (List.mem_of_getElem? (i := 30) (by decide +kernel))) (by decide +kernel)
theorem q1378 : Cond.instanceMethod yX10_answers ∈ TG := tg_of (tI3 (List.mem_of_getElem? (i := 31) (by decide +kernel))) (by decide +kernel)
theorem q1379 : Cond.selects RX10 yX10_answers yX10_answers ∈ TG := tg_of (tI3 (List.mem_of_getElem? (i := 32) (by decide +kernel))) (by decide +kernel)
theorem q1380 : Cond.code yX11_answers cX11_answers 1 (some .int) ∈ TG := tg_of (tI8 (List.mem_of_getElem? (i := 167) (by decide +kernel))) (by decide +kernel)
theorem q1381 : Cond.methodLink RL 209 yX11_answers ∈ TG := tg_of (tI8 (List.mem_of_getElem? (i := 164) (by decide +kernel))) (by decide +kernel)
theorem q1382 : Cond.instanceMethod yX11_answers ∈ TG := tg_of (tI8 (List.mem_of_getElem? (i := 165) (by decide +kernel))) (by decide +kernel)
theorem q1383 : Cond.selects RX11 yX11_answers yX11_answers ∈ TG := tg_of (tI8 (List.mem_of_getElem? (i := 166) (by decide +kernel))) (by decide +kernel)
theorem q1384 : Cond.code yX11_window cX11_window 8 (some .int) ∈ TG := tg_of (tI8 (List.mem_of_getElem? (i := 159) (by decide +kernel))) (by decide +kernel)
theorem q1385 : Cond.methodLink RL 205 yX11_window ∈ TG := tg_of (tI8 (List.mem_of_getElem? (i := 156) (by decide +kernel))) (by decide +kernel)
theorem q1386 : Cond.instanceMethod yX11_window ∈ TG := tg_of (tI8 (List.mem_of_getElem? (i := 157) (by decide +kernel))) (by decide +kernel)
theorem q1387 : Cond.selects RX11 yX11_window yX11_window ∈ TG := tg_of (tI8 (List.mem_of_getElem? (i := 158) (by decide +kernel))) (by decide +kernel)
theorem q1388 : Cond.code yX11_near cX11_near 2 (some .int) ∈ TG := tg_of (tI8 (List.mem_of_getElem? (i := 155) (by decide +kernel))) (by decide +kernel)
theorem q1389 : Cond.methodLink RL 202 yX11_near ∈ TG := tg_of (tI8 (List.mem_of_getElem? (i := 152) (by decide +kernel))) (by decide +kernel)
theorem q1390 : Cond.instanceMethod yX11_near ∈ TG := tg_of (tI8 (List.mem_of_getElem? (i := 153) (by decide +kernel))) (by decide +kernel)
theorem q1391 : Cond.selects RX11 yX11_near yX11_near ∈ TG := tg_of (tI8 (List.mem_of_getElem? (i := 154) (by decide +kernel))) (by decide +kernel)
theorem q1392 : Cond.code yX11_score cX11_score 2 (some .int) ∈ TG := tg_of (tI8 (List.mem_of_getElem? (i := 131) (by decide +kernel))) (by decide +kernel)
theorem q1393 : Cond.methodLink RL 199 yX11_score ∈ TG := tg_of (tI8 (List.mem_of_getElem? (i := 128) (by decide +kernel))) (by decide +kernel)
theorem q1394 : Cond.instanceMethod yX11_score ∈ TG := tg_of (tI8 (List.mem_of_getElem? (i := 129) (by decide +kernel))) (by decide +kernel)
theorem q1395 : Cond.selects RX11 yX11_score yX11_score ∈ TG := tg_of (tI8 (List.mem_of_getElem? (i := 130) (by decide +kernel))) (by decide +kernel)
theorem q1396 : Cond.code yX11_why cX11_why 2 (some .int) ∈ TG := tg_of (tI8 (List.mem_of_getElem? (i := 119) (by decide +kernel))) (by decide +kernel)
theorem q1397 : Cond.methodLink RL 196 yX11_why ∈ TG := tg_of (tI8 (List.mem_of_getElem? (i := 116) (by decide +kernel))) (by decide +kernel)
theorem q1398 : Cond.instanceMethod yX11_why ∈ TG := tg_of (tI8 (List.mem_of_getElem? (i := 117) (by decide +kernel))) (by decide +kernel)
theorem q1399 : Cond.selects RX11 yX11_why yX11_why ∈ TG := tg_of (tI8 (List.mem_of_getElem? (i := 118) (by decide +kernel))) (by decide +kernel)
theorem q1400 : Cond.code yX11_scored cX11_scored 4 (some .int) ∈ TG := tg_of (tI8 (List.mem_of_getElem? (i := 111) (by decide +kernel))) (by decide +kernel)
theorem q1401 : Cond.methodLink RL 193 yX11_scored ∈ TG := tg_of (tI8 (List.mem_of_getElem? (i := 108) (by decide +kernel))) (by decide +kernel)
theorem q1402 : Cond.instanceMethod yX11_scored ∈ TG := tg_of (tI8 (List.mem_of_getElem? (i := 109) (by decide +kernel))) (by decide +kernel)
theorem q1403 : Cond.selects RX11 yX11_scored yX11_scored ∈ TG := tg_of (tI8 (List.mem_of_getElem? (i := 110) (by decide +kernel))) (by decide +kernel)
theorem q1404 : Cond.code yX11_alike cX11_alike 3 (some .int) ∈ TG := tg_of (tI8 (List.mem_of_getElem? (i := 103) (by decide +kernel))) (by decide +kernel)
theorem q1405 : Cond.methodLink RL 190 yX11_alike ∈ TG := tg_of (tI8 (List.mem_of_getElem? (i := 100) (by decide +kernel))) (by decide +kernel)
theorem q1406 : Cond.instanceMethod yX11_alike ∈ TG := tg_of (tI8 (List.mem_of_getElem? (i := 101) (by decide +kernel))) (by decide +kernel)
theorem q1407 : Cond.selects RX11 yX11_alike yX11_alike ∈ TG := tg_of (tI8 (List.mem_of_getElem? (i := 102) (by decide +kernel))) (by decide +kernel)
theorem q1408 : Cond.code yX11_common cX11_common 3 (some .int) ∈ TG := tg_of (tI8 (List.mem_of_getElem? (i := 95) (by decide +kernel))) (by decide +kernel)
theorem q1409 : Cond.methodLink RL 187 yX11_common ∈ TG := tg_of (tI8 (List.mem_of_getElem? (i := 92) (by decide +kernel))) (by decide +kernel)
theorem q1410 : Cond.instanceMethod yX11_common ∈ TG := tg_of (tI8 (List.mem_of_getElem? (i := 93) (by decide +kernel))) (by decide +kernel)
theorem q1411 : Cond.selects RX11 yX11_common yX11_common ∈ TG := tg_of (tI8 (List.mem_of_getElem? (i := 94) (by decide +kernel))) (by decide +kernel)
theorem q1412 : Cond.code yX11_position cX11_position 7 (some .int) ∈ TG := tg_of (tI8 (List.mem_of_getElem? (i := 91) (by decide +kernel))) (by decide +kernel)
theorem q1413 : Cond.methodLink RL 184 yX11_position ∈ TG := tg_of (tI8 (List.mem_of_getElem? (i := 88) (by decide +kernel))) (by decide +kernel)
theorem q1414 : Cond.instanceMethod yX11_position ∈ TG := tg_of (tI8 (List.mem_of_getElem? (i := 89) (by decide +kernel))) (by decide +kernel)
theorem q1415 : Cond.selects RX11 yX11_position yX11_position ∈ TG := tg_of (tI8 (List.mem_of_getElem? (i := 90) (by decide +kernel))) (by decide +kernel)
theorem q1416 : Cond.code yX11_posting cX11_posting 4 (some .int) ∈ TG := tg_of (tI8 (List.mem_of_getElem? (i := 83) (by decide +kernel))) (by decide +kernel)
theorem q1417 : Cond.methodLink RL 181 yX11_posting ∈ TG := tg_of (tI8 (List.mem_of_getElem? (i := 80) (by decide +kernel))) (by decide +kernel)
theorem q1418 : Cond.instanceMethod yX11_posting ∈ TG := tg_of (tI8 (List.mem_of_getElem? (i := 81) (by decide +kernel))) (by decide +kernel)
theorem q1419 : Cond.selects RX11 yX11_posting yX11_posting ∈ TG := tg_of (tI8 (List.mem_of_getElem? (i := 82) (by decide +kernel))) (by decide +kernel)
theorem q1420 : Cond.code yX11_block cX11_block 6 (some .int) ∈ TG := tg_of (tI8 (List.mem_of_getElem? (i := 75) (by decide +kernel))) (by decide +kernel)
theorem q1421 : Cond.methodLink RL 178 yX11_block ∈ TG := tg_of (tI8 (List.mem_of_getElem? (i := 72) (by decide +kernel))) (by decide +kernel)
theorem q1422 : Cond.instanceMethod yX11_block ∈ TG := tg_of (tI8 (List.mem_of_getElem? (i := 73) (by decide +kernel))) (by decide +kernel)
theorem q1423 : Cond.selects RX11 yX11_block yX11_block ∈ TG := tg_of (tI8 (List.mem_of_getElem? (i := 74) (by decide +kernel))) (by decide +kernel)
theorem q1424 : Cond.code yX11_letter cX11_letter 6 (some .int) ∈ TG := tg_of (tI8 (List.mem_of_getElem? (i := 71) (by decide +kernel))) (by decide +kernel)
theorem q1425 : Cond.methodLink RL 174 yX11_letter ∈ TG := tg_of (tI8 (List.mem_of_getElem? (i := 68) (by decide +kernel))) (by decide +kernel)
theorem q1426 : Cond.instanceMethod yX11_letter ∈ TG := tg_of (tI8 (List.mem_of_getElem? (i := 69) (by decide +kernel))) (by decide +kernel)
theorem q1427 : Cond.selects RX11 yX11_letter yX11_letter ∈ TG := tg_of (tI8 (List.mem_of_getElem? (i := 70) (by decide +kernel))) (by decide +kernel)
theorem q1428 : Cond.code yX11_word cX11_word 3 (some .int) ∈ TG := tg_of (tI8 (List.mem_of_getElem? (i := 43) (by decide +kernel))) (by decide +kernel)
theorem q1429 : Cond.methodLink RL 171 yX11_word ∈ TG := tg_of (tI8 (List.mem_of_getElem? (i := 40) (by decide +kernel))) (by decide +kernel)
theorem q1430 : Cond.instanceMethod yX11_word ∈ TG := tg_of (tI8 (List.mem_of_getElem? (i := 41) (by decide +kernel))) (by decide +kernel)
theorem q1431 : Cond.selects RX11 yX11_word yX11_word ∈ TG := tg_of (tI8 (List.mem_of_getElem? (i := 42) (by decide +kernel))) (by decide +kernel)
theorem q1432 : Cond.code yX11_at cX11_at 3 (some .int) ∈ TG := tg_of (tI8 (List.mem_of_getElem? (i := 39) (by decide +kernel))) (by decide +kernel)
theorem q1433 : Cond.methodLink RL 168 yX11_at ∈ TG := tg_of (tI8 (List.mem_of_getElem? (i := 36) (by decide +kernel))) (by decide +kernel)
theorem q1434 : Cond.instanceMethod yX11_at ∈ TG := tg_of (tI8 (List.mem_of_getElem? (i := 37) (by decide +kernel))) (by decide +kernel)
theorem q1435 : Cond.selects RX11 yX11_at yX11_at ∈ TG := tg_of (tI8 (List.mem_of_getElem? (i := 38) (by decide +kernel))) (by decide +kernel)
theorem q1436 : Cond.code yX11_document cX11_document 3 (some .int) ∈ TG := tg_of (tI8 (List.mem_of_getElem? (i := 23) (by decide +kernel))) (by decide +kernel)
theorem q1437 : Cond.methodLink RL 165 yX11_document ∈ TG := tg_of (tI8 (List.mem_of_getElem? (i := 20) (by decide +kernel))) (by decide +kernel)
theorem q1438 : Cond.instanceMethod yX11_document ∈ TG := tg_of (tI8 (List.mem_of_getElem? (i := 21) (by decide +kernel))) (by decide +kernel)
theorem q1439 : Cond.selects RX11 yX11_document yX11_document ∈ TG := tg_of (tI8 (List.mem_of_getElem? (i := 22) (by decide +kernel))) (by decide +kernel)
theorem q1440 : Cond.code yX11_told cX11_told 2 (some .int) ∈ TG := tg_of (tI7 (List.mem_of_getElem? (i := 210) (by decide +kernel))) (by decide +kernel)
theorem q1441 : Cond.methodLink RL 161 yX11_told ∈ TG := tg_of (tI7 (List.mem_of_getElem? (i := 207) (by decide +kernel))) (by decide +kernel)
theorem q1442 : Cond.instanceMethod yX11_told ∈ TG := tg_of (tI7 (List.mem_of_getElem? (i := 208) (by decide +kernel))) (by decide +kernel)
theorem q1443 : Cond.selects RX11 yX11_told yX11_told ∈ TG := tg_of (tI7 (List.mem_of_getElem? (i := 209) (by decide +kernel))) (by decide +kernel)
theorem q1444 : Cond.code yX11_repack cX11_repack 4 (some .int) ∈ TG := tg_of (tI7 (List.mem_of_getElem? (i := 206) (by decide +kernel))) (by decide +kernel)
theorem q1445 : Cond.methodLink RL 158 yX11_repack ∈ TG := tg_of (tI7 (List.mem_of_getElem? (i := 203) (by decide +kernel))) (by decide +kernel)
theorem q1446 : Cond.instanceMethod yX11_repack ∈ TG := tg_of (tI7 (List.mem_of_getElem? (i := 204) (by decide +kernel))) (by decide +kernel)
theorem q1447 : Cond.selects RX11 yX11_repack yX11_repack ∈ TG := tg_of (tI7 (List.mem_of_getElem? (i := 205) (by decide +kernel))) (by decide +kernel)
theorem q1448 : Cond.code yX11_remove cX11_remove 2 (some .int) ∈ TG := tg_of (tI7 (List.mem_of_getElem? (i := 198) (by decide +kernel))) (by decide +kernel)
theorem q1449 : Cond.methodLink RL 155 yX11_remove ∈ TG := tg_of (tI7 (List.mem_of_getElem? (i := 195) (by decide +kernel))) (by decide +kernel)
theorem q1450 : Cond.instanceMethod yX11_remove ∈ TG := tg_of (tI7 (List.mem_of_getElem? (i := 196) (by decide +kernel))) (by decide +kernel)
theorem q1451 : Cond.selects RX11 yX11_remove yX11_remove ∈ TG := tg_of (tI7 (List.mem_of_getElem? (i := 197) (by decide +kernel))) (by decide +kernel)
theorem q1452 : Cond.code yX11_find cX11_find 5 (some .int) ∈ TG := tg_of (tI7 (List.mem_of_getElem? (i := 159) (by decide +kernel))) (by decide +kernel)
theorem q1453 : Cond.methodLink RL 152 yX11_find ∈ TG := tg_of (tI7 (List.mem_of_getElem? (i := 156) (by decide +kernel))) (by decide +kernel)
theorem q1454 : Cond.instanceMethod yX11_find ∈ TG := tg_of (tI7 (List.mem_of_getElem? (i := 157) (by decide +kernel))) (by decide +kernel)
theorem q1455 : Cond.selects RX11 yX11_find yX11_find ∈ TG := tg_of (tI7 (List.mem_of_getElem? (i := 158) (by decide +kernel))) (by decide +kernel)
theorem q1456 : Cond.code yX10_fault cX10_fault 1 (some .int) ∈ TG := tg_of (tI3 (List.mem_of_getElem? (i := 29) (by decide +kernel))) (by decide +kernel)
theorem q1457 : Cond.methodLink RL 146 yX10_fault ∈ TG := tg_of (tI3 (List.mem_of_getElem? (i := 26) (by decide +kernel))) (by decide +kernel)
theorem q1458 : Cond.instanceMethod yX10_fault ∈ TG := tg_of (tI3 (List.mem_of_getElem? (i := 27) (by decide +kernel))) (by decide +kernel)
theorem q1459 : Cond.selects RX10 yX10_fault yX10_fault ∈ TG := tg_of (tI3 (List.mem_of_getElem? (i := 28) (by decide +kernel))) (by decide +kernel)
theorem q1460 : Cond.code yX11_fault cX11_fault 1 (some .int) ∈ TG := tg_of (tI7 (List.mem_of_getElem? (i := 163) (by decide +kernel))) (by decide +kernel)
theorem q1461 : Cond.methodLink RL 149 yX11_fault ∈ TG := tg_of (tI7 (List.mem_of_getElem? (i := 160) (by decide +kernel))) (by decide +kernel)
theorem q1462 : Cond.instanceMethod yX11_fault ∈ TG := tg_of (tI7 (List.mem_of_getElem? (i := 161) (by decide +kernel))) (by decide +kernel)
theorem q1463 : Cond.selects RX11 yX11_fault yX11_fault ∈ TG := tg_of (tI7 (List.mem_of_getElem? (i := 162) (by decide +kernel))) (by decide +kernel)
theorem q1464 : Cond.code yX11_ask cX11_ask 2 (some .int) ∈ TG := tg_of (tI7 (List.mem_of_getElem? (i := 167) (by decide +kernel))) (by decide +kernel)
theorem q1465 : Cond.methodLink RL 145 yX11_ask ∈ TG := tg_of (tI7 (List.mem_of_getElem? (i := 164) (by decide +kernel))) (by decide +kernel)
theorem q1466 : Cond.instanceMethod yX11_ask ∈ TG := tg_of (tI7 (List.mem_of_getElem? (i := 165) (by decide +kernel))) (by decide +kernel)
theorem q1467 : Cond.selects RX11 yX11_ask yX11_ask ∈ TG := tg_of (tI7 (List.mem_of_getElem? (i := 166) (by decide +kernel))) (by decide +kernel)
theorem q1468 : Cond.code yX11_add cX11_add 6 (some .int) ∈ TG := tg_of (tI7 (List.mem_of_getElem? (i := 111) (by decide +kernel))) (by decide +kernel)
theorem q1469 : Cond.methodLink RL 138 yX11_add ∈ TG := tg_of (tI7 (List.mem_of_getElem? (i := 108) (by decide +kernel))) (by decide +kernel)
theorem q1470 : Cond.instanceMethod yX11_add ∈ TG := tg_of (tI7 (List.mem_of_getElem? (i := 109) (by decide +kernel))) (by decide +kernel)
theorem q1471 : Cond.selects RX11 yX11_add yX11_add ∈ TG := tg_of (tI7 (List.mem_of_getElem? (i := 110) (by decide +kernel))) (by decide +kernel)
theorem q1472 : Cond.code yX10_feed cX10_feed 6 (some .int) ∈ TG := tg_of (tI3 (List.mem_of_getElem? (i := 21) (by decide +kernel))) (by decide +kernel)
theorem q1473 : Cond.methodLink RL 128 yX10_feed ∈ TG := tg_of (tI3 (List.mem_of_getElem? (i := 18) (by decide +kernel))) (by decide +kernel)
theorem q1474 : Cond.instanceMethod yX10_feed ∈ TG := tg_of (tI3 (List.mem_of_getElem? (i := 19) (by decide +kernel))) (by decide +kernel)
theorem q1475 : Cond.selects RX10 yX10_feed yX10_feed ∈ TG := tg_of (tI3 (List.mem_of_getElem? (i := 20) (by decide +kernel))) (by decide +kernel)
theorem q1476 : Cond.code yX11_feed cX11_feed 8 (some .int) ∈ TG := tg_of (tI7 (List.mem_of_getElem? (i := 107) (by decide +kernel))) (by decide +kernel)
theorem q1477 : Cond.methodLink RL 132 yX11_feed ∈ TG := tg_of (tI7 (List.mem_of_getElem? (i := 104) (by decide +kernel))) (by decide +kernel)
theorem q1478 : Cond.instanceMethod yX11_feed ∈ TG := tg_of (tI7 (List.mem_of_getElem? (i := 105) (by decide +kernel))) (by decide +kernel)
theorem q1479 : Cond.selects RX11 yX11_feed yX11_feed ∈ TG := tg_of (tI7 (List.mem_of_getElem? (i := 106) (by decide +kernel))) (by decide +kernel)
theorem sv_L_266 : SV RL 266 RX10 yX10_status cX10_status 2 (some .int) 1 := ⟨q1285, q1286, q1287, q274, q1284, rfl, by decide +kernel, by decide +kernel, by decide +kernel⟩
theorem sv_L_269 : SV RL 269 RX11 yX11_status cX11_status 2 (some .int) 1 := ⟨q1289, q1290, q1291, q553, q1288, rfl, by decide +kernel, by decide +kernel, by decide +kernel⟩
theorem sv_L_265 : SV RL 265 RX11 yX11_without cX11_without 8 (some .int) 2 := ⟨q1293, q1294, q1295, q553, q1292, rfl, by decide +kernel, by decide +kernel, by decide +kernel⟩
theorem sv_L_139 : SV RL 139 RX11 yX11_thrown cX11_thrown 1 (some .int) 0 := ⟨q1297, q1298, q1299, q553, q1296, rfl, by decide +kernel, by decide +kernel, by decide +kernel⟩
theorem sv_L_262 : SV RL 262 RX11 yX11_depth cX11_depth 5 (some .int) 2 := ⟨q1301, q1302, q1303, q553, q1300, rfl, by decide +kernel, by decide +kernel, by decide +kernel⟩
theorem sv_L_259 : SV RL 259 RX11 yX11_phrase cX11_phrase 3 (some .int) 2 := ⟨q1305, q1306, q1307, q553, q1304, rfl, by decide +kernel, by decide +kernel, by decide +kernel⟩
theorem sv_L_256 : SV RL 256 RX11 yX11_points cX11_points 3 (some .int) 2 := ⟨q1309, q1310, q1311, q553, q1308, rfl, by decide +kernel, by decide +kernel, by decide +kernel⟩
theorem sv_L_253 : SV RL 253 RX11 yX11_rarest cX11_rarest 6 (some .int) 1 := ⟨q1313, q1314, q1315, q553, q1312, rfl, by decide +kernel, by decide +kernel, by decide +kernel⟩
theorem sv_L_250 : SV RL 250 RX11 yX11_nearest cX11_nearest 4 (some .int) 1 := ⟨q1317, q1318, q1319, q553, q1316, rfl, by decide +kernel, by decide +kernel, by decide +kernel⟩
theorem sv_L_247 : SV RL 247 RX11 yX11_spread cX11_spread 4 (some .int) 1 := ⟨q1321, q1322, q1323, q553, q1320, rfl, by decide +kernel, by decide +kernel, by decide +kernel⟩
theorem sv_L_241 : SV RL 241 RX10 yX10_full cX10_full 3 (some .int) 0 := ⟨q1325, q1326, q1327, q274, q1324, rfl, by decide +kernel, by decide +kernel, by decide +kernel⟩
theorem sv_L_244 : SV RL 244 RX11 yX11_full cX11_full 5 (some .int) 0 := ⟨q1329, q1330, q1331, q553, q1328, rfl, by decide +kernel, by decide +kernel, by decide +kernel⟩
theorem sv_L_240 : SV RL 240 RX11 yX11_blockOf cX11_blockOf 4 (some .int) 2 := ⟨q1333, q1334, q1335, q553, q1332, rfl, by decide +kernel, by decide +kernel, by decide +kernel⟩
theorem sv_L_237 : SV RL 237 RX11 yX11_swift cX11_swift 6 (some .int) 2 := ⟨q1337, q1338, q1339, q553, q1336, rfl, by decide +kernel, by decide +kernel, by decide +kernel⟩
theorem sv_L_231 : SV RL 231 RX10 yX10_thrift cX10_thrift 5 (some .int) 0 := ⟨q1341, q1342, q1343, q274, q1340, rfl, by decide +kernel, by decide +kernel, by decide +kernel⟩
theorem sv_L_234 : SV RL 234 RX11 yX11_thrift cX11_thrift 3 (some .int) 0 := ⟨q1345, q1346, q1347, q553, q1344, rfl, by decide +kernel, by decide +kernel, by decide +kernel⟩
theorem sv_L_230 : SV RL 230 RX11 yX11_bits cX11_bits 2 (some .int) 1 := ⟨q1349, q1350, q1351, q553, q1348, rfl, by decide +kernel, by decide +kernel, by decide +kernel⟩
theorem sv_L_227 : SV RL 227 RX11 yX11_inside cX11_inside 5 (some .int) 2 := ⟨q1353, q1354, q1355, q553, q1352, rfl, by decide +kernel, by decide +kernel, by decide +kernel⟩
theorem sv_L_224 : SV RL 224 RX11 yX11_opened cX11_opened 5 (some .int) 3 := ⟨q1357, q1358, q1359, q553, q1356, rfl, by decide +kernel, by decide +kernel, by decide +kernel⟩
theorem sv_L_221 : SV RL 221 RX11 yX11_best cX11_best 3 (some .int) 2 := ⟨q1361, q1362, q1363, q553, q1360, rfl, by decide +kernel, by decide +kernel, by decide +kernel⟩
theorem sv_L_218 : SV RL 218 RX11 yX11_early cX11_early 3 (some .int) 2 := ⟨q1365, q1366, q1367, q553, q1364, rfl, by decide +kernel, by decide +kernel, by decide +kernel⟩
theorem sv_L_215 : SV RL 215 RX11 yX11_place cX11_place 3 (some .int) 1 := ⟨q1369, q1370, q1371, q553, q1368, rfl, by decide +kernel, by decide +kernel, by decide +kernel⟩
theorem sv_L_212 : SV RL 212 RX11 yX11_answer cX11_answer 3 (some .int) 2 := ⟨q1373, q1374, q1375, q553, q1372, rfl, by decide +kernel, by decide +kernel, by decide +kernel⟩
theorem sv_L_206 : SV RL 206 RX10 yX10_answers cX10_answers 1 (some .int) 0 := ⟨q1377, q1378, q1379, q274, q1376, rfl, by decide +kernel, by decide +kernel, by decide +kernel⟩
theorem sv_L_209 : SV RL 209 RX11 yX11_answers cX11_answers 1 (some .int) 0 := ⟨q1381, q1382, q1383, q553, q1380, rfl, by decide +kernel, by decide +kernel, by decide +kernel⟩
theorem sv_L_205 : SV RL 205 RX11 yX11_window cX11_window 8 (some .int) 2 := ⟨q1385, q1386, q1387, q553, q1384, rfl, by decide +kernel, by decide +kernel, by decide +kernel⟩
theorem sv_L_202 : SV RL 202 RX11 yX11_near cX11_near 2 (some .int) 1 := ⟨q1389, q1390, q1391, q553, q1388, rfl, by decide +kernel, by decide +kernel, by decide +kernel⟩
theorem sv_L_199 : SV RL 199 RX11 yX11_score cX11_score 2 (some .int) 1 := ⟨q1393, q1394, q1395, q553, q1392, rfl, by decide +kernel, by decide +kernel, by decide +kernel⟩
theorem sv_L_196 : SV RL 196 RX11 yX11_why cX11_why 2 (some .int) 1 := ⟨q1397, q1398, q1399, q553, q1396, rfl, by decide +kernel, by decide +kernel, by decide +kernel⟩
theorem sv_L_193 : SV RL 193 RX11 yX11_scored cX11_scored 4 (some .int) 2 := ⟨q1401, q1402, q1403, q553, q1400, rfl, by decide +kernel, by decide +kernel, by decide +kernel⟩
theorem sv_L_190 : SV RL 190 RX11 yX11_alike cX11_alike 3 (some .int) 2 := ⟨q1405, q1406, q1407, q553, q1404, rfl, by decide +kernel, by decide +kernel, by decide +kernel⟩
theorem sv_L_187 : SV RL 187 RX11 yX11_common cX11_common 3 (some .int) 1 := ⟨q1409, q1410, q1411, q553, q1408, rfl, by decide +kernel, by decide +kernel, by decide +kernel⟩
theorem sv_L_184 : SV RL 184 RX11 yX11_position cX11_position 7 (some .int) 3 := ⟨q1413, q1414, q1415, q553, q1412, rfl, by decide +kernel, by decide +kernel, by decide +kernel⟩
theorem sv_L_181 : SV RL 181 RX11 yX11_posting cX11_posting 4 (some .int) 3 := ⟨q1417, q1418, q1419, q553, q1416, rfl, by decide +kernel, by decide +kernel, by decide +kernel⟩
theorem sv_L_178 : SV RL 178 RX11 yX11_block cX11_block 6 (some .int) 3 := ⟨q1421, q1422, q1423, q553, q1420, rfl, by decide +kernel, by decide +kernel, by decide +kernel⟩
theorem sv_L_174 : SV RL 174 RX11 yX11_letter cX11_letter 6 (some .int) 2 := ⟨q1425, q1426, q1427, q553, q1424, rfl, by decide +kernel, by decide +kernel, by decide +kernel⟩
theorem sv_L_171 : SV RL 171 RX11 yX11_word cX11_word 3 (some .int) 2 := ⟨q1429, q1430, q1431, q553, q1428, rfl, by decide +kernel, by decide +kernel, by decide +kernel⟩
theorem sv_L_168 : SV RL 168 RX11 yX11_at cX11_at 3 (some .int) 2 := ⟨q1433, q1434, q1435, q553, q1432, rfl, by decide +kernel, by decide +kernel, by decide +kernel⟩
theorem sv_L_165 : SV RL 165 RX11 yX11_document cX11_document 3 (some .int) 2 := ⟨q1437, q1438, q1439, q553, q1436, rfl, by decide +kernel, by decide +kernel, by decide +kernel⟩
theorem sv_L_161 : SV RL 161 RX11 yX11_told cX11_told 2 (some .int) 1 := ⟨q1441, q1442, q1443, q553, q1440, rfl, by decide +kernel, by decide +kernel, by decide +kernel⟩
theorem sv_L_158 : SV RL 158 RX11 yX11_repack cX11_repack 4 (some .int) 1 := ⟨q1445, q1446, q1447, q553, q1444, rfl, by decide +kernel, by decide +kernel, by decide +kernel⟩
theorem sv_L_155 : SV RL 155 RX11 yX11_remove cX11_remove 2 (some .int) 1 := ⟨q1449, q1450, q1451, q553, q1448, rfl, by decide +kernel, by decide +kernel, by decide +kernel⟩
theorem sv_L_152 : SV RL 152 RX11 yX11_find cX11_find 5 (some .int) 1 := ⟨q1453, q1454, q1455, q553, q1452, rfl, by decide +kernel, by decide +kernel, by decide +kernel⟩
theorem sv_L_146 : SV RL 146 RX10 yX10_fault cX10_fault 1 (some .int) 0 := ⟨q1457, q1458, q1459, q274, q1456, rfl, by decide +kernel, by decide +kernel, by decide +kernel⟩
theorem sv_L_149 : SV RL 149 RX11 yX11_fault cX11_fault 1 (some .int) 0 := ⟨q1461, q1462, q1463, q553, q1460, rfl, by decide +kernel, by decide +kernel, by decide +kernel⟩
theorem sv_L_145 : SV RL 145 RX11 yX11_ask cX11_ask 2 (some .int) 1 := ⟨q1465, q1466, q1467, q553, q1464, rfl, by decide +kernel, by decide +kernel, by decide +kernel⟩
theorem sv_L_138 : SV RL 138 RX11 yX11_add cX11_add 6 (some .int) 1 := ⟨q1469, q1470, q1471, q553, q1468, rfl, by decide +kernel, by decide +kernel, by decide +kernel⟩
theorem sv_L_128 : SV RL 128 RX10 yX10_feed cX10_feed 6 (some .int) 5 := ⟨q1473, q1474, q1475, q274, q1472, rfl, by decide +kernel, by decide +kernel, by decide +kernel⟩
theorem sv_L_132 : SV RL 132 RX11 yX11_feed cX11_feed 8 (some .int) 5 := ⟨q1477, q1478, q1479, q553, q1476, rfl, by decide +kernel, by decide +kernel, by decide +kernel⟩
theorem sl_L_263 : SL RL 263 yL_without cL_without 5 [(0, 10, 13, 13)] 4 := ⟨q1175, q1176, q1177, q1178, by decide +kernel, by decide +kernel, by decide +kernel⟩
theorem sl_L_260 : SL RL 260 yL_depth cL_depth 5 [(0, 10, 13, 24)] 4 := ⟨q1179, q1180, q1177, q1181, by decide +kernel, by decide +kernel, by decide +kernel⟩
theorem sl_L_257 : SL RL 257 yL_phrase cL_phrase 5 [(0, 10, 13, 24)] 4 := ⟨q1182, q1183, q1177, q1184, by decide +kernel, by decide +kernel, by decide +kernel⟩
theorem sl_L_254 : SL RL 254 yL_points cL_points 5 [(0, 10, 13, 24)] 4 := ⟨q1185, q1186, q1177, q1187, by decide +kernel, by decide +kernel, by decide +kernel⟩
theorem sl_L_251 : SL RL 251 yL_rarest cL_rarest 4 [(0, 9, 12, 24)] 3 := ⟨q1188, q1189, q1177, q1190, by decide +kernel, by decide +kernel, by decide +kernel⟩
theorem sl_L_248 : SL RL 248 yL_nearest cL_nearest 4 [(0, 9, 12, 24)] 3 := ⟨q1191, q1192, q1177, q1193, by decide +kernel, by decide +kernel, by decide +kernel⟩
theorem sl_L_245 : SL RL 245 yL_spread cL_spread 4 [(0, 9, 12, 13)] 3 := ⟨q1194, q1195, q1177, q1196, by decide +kernel, by decide +kernel, by decide +kernel⟩
theorem sl_L_238 : SL RL 238 yL_blockOf cL_blockOf 5 [(0, 10, 13, 24)] 4 := ⟨q1197, q1198, q1177, q1199, by decide +kernel, by decide +kernel, by decide +kernel⟩
theorem sl_L_235 : SL RL 235 yL_swift cL_swift 5 [(0, 10, 13, 13)] 4 := ⟨q1200, q1201, q1177, q1202, by decide +kernel, by decide +kernel, by decide +kernel⟩
theorem sl_L_228 : SL RL 228 yL_bits cL_bits 4 [(0, 9, 12, 13)] 3 := ⟨q1203, q1204, q1177, q1205, by decide +kernel, by decide +kernel, by decide +kernel⟩
theorem sl_L_225 : SL RL 225 yL_inside cL_inside 5 [(0, 10, 13, 24)] 4 := ⟨q1206, q1207, q1177, q1208, by decide +kernel, by decide +kernel, by decide +kernel⟩
theorem sl_L_222 : SL RL 222 yL_opened cL_opened 6 [(0, 12, 15, 24), (0, 12, 19, 13)] 5 := ⟨q1209, q1210, q1177, q1211, by decide +kernel, by decide +kernel, by decide +kernel⟩
theorem sl_L_219 : SL RL 219 yL_best cL_best 5 [(0, 10, 13, 13)] 4 := ⟨q1212, q1213, q1177, q1214, by decide +kernel, by decide +kernel, by decide +kernel⟩
theorem sl_L_216 : SL RL 216 yL_early cL_early 5 [(0, 10, 13, 13)] 4 := ⟨q1215, q1216, q1177, q1217, by decide +kernel, by decide +kernel, by decide +kernel⟩
theorem sl_L_213 : SL RL 213 yL_place cL_place 4 [(0, 9, 12, 24)] 3 := ⟨q1218, q1219, q1177, q1220, by decide +kernel, by decide +kernel, by decide +kernel⟩
theorem sl_L_210 : SL RL 210 yL_answer cL_answer 5 [(0, 10, 13, 24), (0, 10, 17, 13)] 4 := ⟨q1221, q1222, q1177, q1223, by decide +kernel, by decide +kernel, by decide +kernel⟩
theorem sl_L_203 : SL RL 203 yL_window cL_window 5 [(0, 10, 13, 24), (0, 10, 17, 13)] 4 := ⟨q1224, q1225, q1177, q1226, by decide +kernel, by decide +kernel, by decide +kernel⟩
theorem sl_L_200 : SL RL 200 yL_near cL_near 4 [(0, 9, 12, 24)] 3 := ⟨q1227, q1228, q1177, q1229, by decide +kernel, by decide +kernel, by decide +kernel⟩
theorem sl_L_197 : SL RL 197 yL_score cL_score 4 [(0, 9, 12, 24)] 3 := ⟨q1230, q1231, q1177, q1232, by decide +kernel, by decide +kernel, by decide +kernel⟩
theorem sl_L_194 : SL RL 194 yL_why cL_why 4 [(0, 9, 12, 24)] 3 := ⟨q1233, q1234, q1177, q1235, by decide +kernel, by decide +kernel, by decide +kernel⟩
theorem sl_L_191 : SL RL 191 yL_scored cL_scored 5 [(0, 10, 13, 13)] 4 := ⟨q1236, q1237, q1177, q1238, by decide +kernel, by decide +kernel, by decide +kernel⟩
theorem sl_L_188 : SL RL 188 yL_alike cL_alike 5 [(0, 10, 13, 24)] 4 := ⟨q1239, q1240, q1177, q1241, by decide +kernel, by decide +kernel, by decide +kernel⟩
theorem sl_L_185 : SL RL 185 yL_common cL_common 4 [(0, 9, 12, 24)] 3 := ⟨q1242, q1243, q1177, q1244, by decide +kernel, by decide +kernel, by decide +kernel⟩
theorem sl_L_182 : SL RL 182 yL_position cL_position 6 [(0, 12, 15, 24)] 5 := ⟨q1245, q1246, q1177, q1247, by decide +kernel, by decide +kernel, by decide +kernel⟩
theorem sl_L_179 : SL RL 179 yL_posting cL_posting 6 [(0, 12, 15, 24), (0, 12, 19, 13)] 5 := ⟨q1248, q1249, q1177, q1250, by decide +kernel, by decide +kernel, by decide +kernel⟩
theorem sl_L_175 : SL RL 175 yL_block cL_block 6 [(0, 12, 15, 24), (0, 12, 19, 13)] 5 := ⟨q1251, q1252, q1177, q1253, by decide +kernel, by decide +kernel, by decide +kernel⟩
theorem sl_L_172 : SL RL 172 yL_letter cL_letter 5 [(0, 10, 13, 24)] 4 := ⟨q1254, q1255, q1177, q1256, by decide +kernel, by decide +kernel, by decide +kernel⟩
theorem sl_L_169 : SL RL 169 yL_word cL_word 5 [(0, 10, 13, 24), (0, 10, 17, 13)] 4 := ⟨q1257, q1258, q1177, q1259, by decide +kernel, by decide +kernel, by decide +kernel⟩
theorem sl_L_166 : SL RL 166 yL_at cL_at 5 [(0, 10, 13, 24)] 4 := ⟨q1260, q1261, q1177, q1262, by decide +kernel, by decide +kernel, by decide +kernel⟩
theorem sl_L_162 : SL RL 162 yL_document cL_document 5 [(0, 10, 13, 24), (0, 10, 17, 13)] 4 := ⟨q1263, q1264, q1177, q1265, by decide +kernel, by decide +kernel, by decide +kernel⟩
theorem sl_L_159 : SL RL 159 yL_told cL_told 4 [(0, 9, 12, 13)] 3 := ⟨q1266, q1267, q1177, q1268, by decide +kernel, by decide +kernel, by decide +kernel⟩
theorem sl_L_156 : SL RL 156 yL_repack cL_repack 4 [(0, 9, 12, 13)] 3 := ⟨q1269, q1270, q1177, q1271, by decide +kernel, by decide +kernel, by decide +kernel⟩
theorem sl_L_153 : SL RL 153 yL_remove cL_remove 4 [(0, 9, 12, 24)] 3 := ⟨q1272, q1273, q1177, q1274, by decide +kernel, by decide +kernel, by decide +kernel⟩
theorem sl_L_150 : SL RL 150 yL_find cL_find 4 [(0, 9, 12, 13)] 3 := ⟨q1275, q1276, q1177, q1277, by decide +kernel, by decide +kernel, by decide +kernel⟩
theorem sl_L_143 : SL RL 143 yL_ask cL_ask 4 [(0, 9, 12, 13)] 3 := ⟨q1278, q1279, q1177, q1280, by decide +kernel, by decide +kernel, by decide +kernel⟩
theorem sl_L_133 : SL RL 133 yL_add cL_add 4 [(0, 9, 12, 13)] 3 := ⟨q1281, q1282, q1177, q1283, by decide +kernel, by decide +kernel, by decide +kernel⟩
