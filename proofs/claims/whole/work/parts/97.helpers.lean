theorem oa_in01 : vp_in (0 : Int32) 1 := vp_in_nI (n := 0) (by decide) (by decide)
abbrev mL_load : MD := (yL_load, cL_load, 3, (some .int), [(0, 8, 11, 13)])
abbrev mL_lineCount : MD := (yL_lineCount, cL_lineCount, 4, (some .int), [(0, 9, 12, 19)])
abbrev mL_lineItem : MD := (yL_lineItem, cL_lineItem, 5, (some .int), [(0, 10, 13, 19)])
abbrev mL_lineQuantity : MD := (yL_lineQuantity, cL_lineQuantity, 5, (some .int), [(0, 10, 13, 19)])
abbrev mL_need : MD := (yL_need, cL_need, 5, (some .int), [(0, 10, 13, 19)])
abbrev mL_level : MD := (yL_level, cL_level, 4, (some .int), [(0, 9, 12, 19)])
abbrev mL_pieces : MD := (yL_pieces, cL_pieces, 4, (some .int), [(0, 9, 12, 19)])
abbrev mL_usedBy : MD := (yL_usedBy, cL_usedBy, 4, (some .int), [(0, 9, 12, 19)])
abbrev mL_commonParts : MD := (yL_commonParts, cL_commonParts, 5, (some .int), [(0, 10, 13, 19)])
abbrev mL_stock : MD := (yL_stock, cL_stock, 4, (some .int), [(0, 9, 12, 19)])
abbrev mL_reserved : MD := (yL_reserved, cL_reserved, 4, (some .int), [(0, 9, 12, 19)])
abbrev mL_arriving : MD := (yL_arriving, cL_arriving, 4, (some .int), [(0, 9, 12, 19)])
abbrev mL_nextArrival : MD := (yL_nextArrival, cL_nextArrival, 4, (some .int), [(0, 9, 12, 19)])
abbrev mL_buildable : MD := (yL_buildable, cL_buildable, 4, (some .int), [(0, 9, 12, 19)])
abbrev mL_bottleneck : MD := (yL_bottleneck, cL_bottleneck, 4, (some .int), [(0, 9, 12, 19)])
abbrev mL_buildableTogether : MD := (yL_buildableTogether, cL_buildableTogether, 5, (some .int), [(0, 10, 13, 19), (0, 10, 17, 13)])
abbrev mL_stateOf : MD := (yL_stateOf, cL_stateOf, 4, (some .int), [(0, 9, 12, 19)])
abbrev mL_openUnits : MD := (yL_openUnits, cL_openUnits, 4, (some .int), [(0, 9, 12, 19)])
abbrev mL_reservedUnits : MD := (yL_reservedUnits, cL_reservedUnits, 4, (some .int), [(0, 9, 12, 19)])
abbrev mL_shippedUnits : MD := (yL_shippedUnits, cL_shippedUnits, 4, (some .int), [(0, 9, 12, 19)])
abbrev mL_orderField : MD := (yL_orderField, cL_orderField, 5, (some .int), [(0, 10, 13, 19)])
abbrev mL_missing : MD := (yL_missing, cL_missing, 5, (some .int), [(0, 10, 13, 19)])
abbrev mL_toBuy : MD := (yL_toBuy, cL_toBuy, 4, (some .int), [(0, 9, 12, 19)])
abbrev mL_promise : MD := (yL_promise, cL_promise, 5, (some .int), [(0, 10, 13, 19), (0, 10, 17, 13)])
abbrev mL_promiseOf : MD := (yL_promiseOf, cL_promiseOf, 4, (some .int), [(0, 9, 12, 19)])
abbrev mL_delayingPart : MD := (yL_delayingPart, cL_delayingPart, 4, (some .int), [(0, 9, 12, 19)])
abbrev mL_wouldGet : MD := (yL_wouldGet, cL_wouldGet, 4, (some .int), [(0, 9, 12, 19)])
abbrev mL_rungOf : MD := (yL_rungOf, cL_rungOf, 4, (some .int), [(0, 9, 12, 19)])
abbrev mL_rungUnits : MD := (yL_rungUnits, cL_rungUnits, 4, (some .int), [(0, 9, 12, 19)])
abbrev mL_missingPieces : MD := (yL_missingPieces, cL_missingPieces, 4, (some .int), [(0, 9, 12, 19)])
abbrev mL_buildableAfter : MD := (yL_buildableAfter, cL_buildableAfter, 6, (some .int), [(0, 12, 15, 19), (0, 12, 19, 13)])
abbrev mL_addOrder : MD := (yL_addOrder, cL_addOrder, 8, (some .int), [(0, 16, 19, 19), (0, 16, 23, 13), (0, 16, 27, 114)])
abbrev mL_cancel : MD := (yL_cancel, cL_cancel, 4, (some .int), [(0, 9, 12, 19), (0, 9, 15, 114)])
abbrev mL_reserve : MD := (yL_reserve, cL_reserve, 5, (some .int), [(0, 10, 13, 19), (0, 10, 17, 13), (0, 10, 21, 114)])
abbrev mL_release : MD := (yL_release, cL_release, 5, (some .int), [(0, 10, 13, 19), (0, 10, 17, 13), (0, 10, 21, 114)])
abbrev mL_ship : MD := (yL_ship, cL_ship, 4, (some .int), [(0, 9, 12, 19), (0, 9, 15, 114)])
abbrev mL_buy : MD := (yL_buy, cL_buy, 5, (some .int), [(0, 10, 13, 19), (0, 10, 17, 13), (0, 10, 21, 114)])
abbrev mL_adjust : MD := (yL_adjust, cL_adjust, 5, (some .int), [(0, 10, 13, 19), (0, 10, 17, 13)])
abbrev mL_advance : MD := (yL_advance, cL_advance, 4, (some .int), [(0, 9, 12, 13)])
abbrev mL_formatOrder : MD := (yL_formatOrder, cL_formatOrder, 4, (some .int), [(0, 9, 12, 19)])
abbrev mL_formatNeeds : MD := (yL_formatNeeds, cL_formatNeeds, 4, (some .int), [(0, 9, 12, 19)])
theorem gh_85 : (Cond.initialized RL) ∈ oa_GT := oa_g1 0 rfl rfl
theorem gh_737 : (oa_cwH mL_load) ∈ oa_GT := oa_g3 172 rfl rfl
theorem gh_738 : (Cond.classLink RL 13 "java/lang/IllegalArgumentException") ∈ oa_GT := oa_g3 173 rfl rfl
theorem gh_739 : (Cond.methodLink RL 7 yX11_load) ∈ oa_GT := oa_g3 174 rfl rfl
theorem gh_740 : (Cond.instanceMethod yX11_load) ∈ oa_GT := oa_g3 175 rfl rfl
theorem gh_741 : (Cond.selects RX11 yX11_load yX11_load) ∈ oa_GT := oa_g3 176 rfl rfl
theorem gh_1043 : (oa_cwH mL_lineCount) ∈ oa_GT := oa_g4 238 rfl rfl
theorem gh_1044 : (Cond.classLink RL 19 "java/lang/IndexOutOfBoundsException") ∈ oa_GT := oa_g4 239 rfl rfl
theorem gh_1045 : (Cond.methodLink RL 15 yX11_lineCount) ∈ oa_GT := oa_g5 0 rfl rfl
theorem gh_1046 : (Cond.instanceMethod yX11_lineCount) ∈ oa_GT := oa_g5 1 rfl rfl
theorem gh_1047 : (Cond.selects RX11 yX11_lineCount yX11_lineCount) ∈ oa_GT := oa_g5 2 rfl rfl
theorem gh_1076 : (oa_cwH mL_lineItem) ∈ oa_GT := oa_g5 31 rfl rfl
theorem gh_1077 : (Cond.methodLink RL 21 yX11_lineItem) ∈ oa_GT := oa_g5 32 rfl rfl
theorem gh_1078 : (Cond.instanceMethod yX11_lineItem) ∈ oa_GT := oa_g5 33 rfl rfl
theorem gh_1079 : (Cond.selects RX11 yX11_lineItem yX11_lineItem) ∈ oa_GT := oa_g5 34 rfl rfl
theorem gh_1088 : (oa_cwH mL_lineQuantity) ∈ oa_GT := oa_g5 43 rfl rfl
theorem gh_1089 : (Cond.methodLink RL 25 yX11_lineQuantity) ∈ oa_GT := oa_g5 44 rfl rfl
theorem gh_1090 : (Cond.instanceMethod yX11_lineQuantity) ∈ oa_GT := oa_g5 45 rfl rfl
theorem gh_1091 : (Cond.selects RX11 yX11_lineQuantity yX11_lineQuantity) ∈ oa_GT := oa_g5 46 rfl rfl
theorem gh_1099 : (oa_cwH mL_need) ∈ oa_GT := oa_g5 54 rfl rfl
theorem gh_1100 : (Cond.methodLink RL 28 yX11_need) ∈ oa_GT := oa_g5 55 rfl rfl
theorem gh_1101 : (Cond.instanceMethod yX11_need) ∈ oa_GT := oa_g5 56 rfl rfl
theorem gh_1102 : (Cond.selects RX11 yX11_need yX11_need) ∈ oa_GT := oa_g5 57 rfl rfl
theorem gh_1111 : (oa_cwH mL_level) ∈ oa_GT := oa_g5 66 rfl rfl
theorem gh_1112 : (Cond.methodLink RL 31 yX11_level) ∈ oa_GT := oa_g5 67 rfl rfl
theorem gh_1113 : (Cond.instanceMethod yX11_level) ∈ oa_GT := oa_g5 68 rfl rfl
theorem gh_1114 : (Cond.selects RX11 yX11_level yX11_level) ∈ oa_GT := oa_g5 69 rfl rfl
theorem gh_1119 : (oa_cwH mL_pieces) ∈ oa_GT := oa_g5 74 rfl rfl
theorem gh_1120 : (Cond.methodLink RL 34 yX11_pieces) ∈ oa_GT := oa_g5 75 rfl rfl
theorem gh_1121 : (Cond.instanceMethod yX11_pieces) ∈ oa_GT := oa_g5 76 rfl rfl
theorem gh_1122 : (Cond.selects RX11 yX11_pieces yX11_pieces) ∈ oa_GT := oa_g5 77 rfl rfl
theorem gh_1126 : (oa_cwH mL_usedBy) ∈ oa_GT := oa_g5 81 rfl rfl
theorem gh_1127 : (Cond.methodLink RL 37 yX11_usedBy) ∈ oa_GT := oa_g5 82 rfl rfl
theorem gh_1128 : (Cond.instanceMethod yX11_usedBy) ∈ oa_GT := oa_g5 83 rfl rfl
theorem gh_1129 : (Cond.selects RX11 yX11_usedBy yX11_usedBy) ∈ oa_GT := oa_g5 84 rfl rfl
theorem gh_1133 : (oa_cwH mL_commonParts) ∈ oa_GT := oa_g5 88 rfl rfl
theorem gh_1134 : (Cond.methodLink RL 40 yX11_commonParts) ∈ oa_GT := oa_g5 89 rfl rfl
theorem gh_1135 : (Cond.instanceMethod yX11_commonParts) ∈ oa_GT := oa_g5 90 rfl rfl
theorem gh_1136 : (Cond.selects RX11 yX11_commonParts yX11_commonParts) ∈ oa_GT := oa_g5 91 rfl rfl
theorem gh_1140 : (oa_cwH mL_stock) ∈ oa_GT := oa_g5 95 rfl rfl
theorem gh_1141 : (Cond.methodLink RL 43 yX11_stock) ∈ oa_GT := oa_g5 96 rfl rfl
theorem gh_1142 : (Cond.instanceMethod yX11_stock) ∈ oa_GT := oa_g5 97 rfl rfl
theorem gh_1143 : (Cond.selects RX11 yX11_stock yX11_stock) ∈ oa_GT := oa_g5 98 rfl rfl
theorem gh_1148 : (oa_cwH mL_reserved) ∈ oa_GT := oa_g5 103 rfl rfl
theorem gh_1149 : (Cond.methodLink RL 46 yX11_reserved) ∈ oa_GT := oa_g5 104 rfl rfl
theorem gh_1150 : (Cond.instanceMethod yX11_reserved) ∈ oa_GT := oa_g5 105 rfl rfl
theorem gh_1151 : (Cond.selects RX11 yX11_reserved yX11_reserved) ∈ oa_GT := oa_g5 106 rfl rfl
theorem gh_1156 : (oa_cwH mL_arriving) ∈ oa_GT := oa_g5 111 rfl rfl
theorem gh_1157 : (Cond.methodLink RL 49 yX11_arriving) ∈ oa_GT := oa_g5 112 rfl rfl
theorem gh_1158 : (Cond.instanceMethod yX11_arriving) ∈ oa_GT := oa_g5 113 rfl rfl
theorem gh_1159 : (Cond.selects RX11 yX11_arriving yX11_arriving) ∈ oa_GT := oa_g5 114 rfl rfl
theorem gh_1163 : (oa_cwH mL_nextArrival) ∈ oa_GT := oa_g5 118 rfl rfl
theorem gh_1164 : (Cond.methodLink RL 52 yX11_nextArrival) ∈ oa_GT := oa_g5 119 rfl rfl
theorem gh_1165 : (Cond.instanceMethod yX11_nextArrival) ∈ oa_GT := oa_g5 120 rfl rfl
theorem gh_1166 : (Cond.selects RX11 yX11_nextArrival yX11_nextArrival) ∈ oa_GT := oa_g5 121 rfl rfl
theorem gh_1174 : (oa_cwH mL_buildable) ∈ oa_GT := oa_g5 129 rfl rfl
theorem gh_1175 : (Cond.methodLink RL 55 yX11_buildable) ∈ oa_GT := oa_g5 130 rfl rfl
theorem gh_1176 : (Cond.instanceMethod yX11_buildable) ∈ oa_GT := oa_g5 131 rfl rfl
theorem gh_1177 : (Cond.selects RX11 yX11_buildable yX11_buildable) ∈ oa_GT := oa_g5 132 rfl rfl
theorem gh_1183 : (oa_cwH mL_bottleneck) ∈ oa_GT := oa_g5 138 rfl rfl
theorem gh_1184 : (Cond.methodLink RL 58 yX11_bottleneck) ∈ oa_GT := oa_g5 139 rfl rfl
theorem gh_1185 : (Cond.instanceMethod yX11_bottleneck) ∈ oa_GT := oa_g5 140 rfl rfl
theorem gh_1186 : (Cond.selects RX11 yX11_bottleneck yX11_bottleneck) ∈ oa_GT := oa_g5 141 rfl rfl
theorem gh_1191 : (oa_cwH mL_buildableTogether) ∈ oa_GT := oa_g5 146 rfl rfl
theorem gh_1192 : (Cond.methodLink RL 61 yX11_buildableTogether) ∈ oa_GT := oa_g5 147 rfl rfl
theorem gh_1193 : (Cond.instanceMethod yX11_buildableTogether) ∈ oa_GT := oa_g5 148 rfl rfl
theorem gh_1194 : (Cond.selects RX11 yX11_buildableTogether yX11_buildableTogether) ∈ oa_GT := oa_g5 149 rfl rfl
theorem gh_1219 : (oa_cwH mL_stateOf) ∈ oa_GT := oa_g5 174 rfl rfl
theorem gh_1220 : (Cond.methodLink RL 64 yX11_stateOf) ∈ oa_GT := oa_g5 175 rfl rfl
theorem gh_1221 : (Cond.instanceMethod yX11_stateOf) ∈ oa_GT := oa_g5 176 rfl rfl
theorem gh_1222 : (Cond.selects RX11 yX11_stateOf yX11_stateOf) ∈ oa_GT := oa_g5 177 rfl rfl
theorem gh_1240 : (oa_cwH mL_openUnits) ∈ oa_GT := oa_g5 195 rfl rfl
theorem gh_1241 : (Cond.methodLink RL 67 yX11_openUnits) ∈ oa_GT := oa_g5 196 rfl rfl
theorem gh_1242 : (Cond.instanceMethod yX11_openUnits) ∈ oa_GT := oa_g5 197 rfl rfl
theorem gh_1243 : (Cond.selects RX11 yX11_openUnits yX11_openUnits) ∈ oa_GT := oa_g5 198 rfl rfl
theorem gh_1247 : (oa_cwH mL_reservedUnits) ∈ oa_GT := oa_g5 202 rfl rfl
theorem gh_1248 : (Cond.methodLink RL 70 yX11_reservedUnits) ∈ oa_GT := oa_g5 203 rfl rfl
theorem gh_1249 : (Cond.instanceMethod yX11_reservedUnits) ∈ oa_GT := oa_g5 204 rfl rfl
theorem gh_1250 : (Cond.selects RX11 yX11_reservedUnits yX11_reservedUnits) ∈ oa_GT := oa_g5 205 rfl rfl
theorem gh_1255 : (oa_cwH mL_shippedUnits) ∈ oa_GT := oa_g5 210 rfl rfl
theorem gh_1256 : (Cond.methodLink RL 73 yX11_shippedUnits) ∈ oa_GT := oa_g5 211 rfl rfl
theorem gh_1257 : (Cond.instanceMethod yX11_shippedUnits) ∈ oa_GT := oa_g5 212 rfl rfl
theorem gh_1258 : (Cond.selects RX11 yX11_shippedUnits yX11_shippedUnits) ∈ oa_GT := oa_g5 213 rfl rfl
theorem gh_1266 : (oa_cwH mL_orderField) ∈ oa_GT := oa_g5 221 rfl rfl
theorem gh_1267 : (Cond.methodLink RL 76 yX11_orderField) ∈ oa_GT := oa_g5 222 rfl rfl
theorem gh_1268 : (Cond.instanceMethod yX11_orderField) ∈ oa_GT := oa_g5 223 rfl rfl
theorem gh_1269 : (Cond.selects RX11 yX11_orderField yX11_orderField) ∈ oa_GT := oa_g5 224 rfl rfl
theorem gh_1279 : (oa_cwH mL_missing) ∈ oa_GT := oa_g5 234 rfl rfl
theorem gh_1280 : (Cond.methodLink RL 79 yX11_missing) ∈ oa_GT := oa_g5 235 rfl rfl
theorem gh_1281 : (Cond.instanceMethod yX11_missing) ∈ oa_GT := oa_g5 236 rfl rfl
theorem gh_1282 : (Cond.selects RX11 yX11_missing yX11_missing) ∈ oa_GT := oa_g5 237 rfl rfl
theorem gh_1290 : (oa_cwH mL_toBuy) ∈ oa_GT := oa_g6 5 rfl rfl
theorem gh_1291 : (Cond.methodLink RL 82 yX11_toBuy) ∈ oa_GT := oa_g6 6 rfl rfl
theorem gh_1292 : (Cond.instanceMethod yX11_toBuy) ∈ oa_GT := oa_g6 7 rfl rfl
theorem gh_1293 : (Cond.selects RX11 yX11_toBuy yX11_toBuy) ∈ oa_GT := oa_g6 8 rfl rfl
theorem gh_1297 : (oa_cwH mL_promise) ∈ oa_GT := oa_g6 12 rfl rfl
theorem gh_1298 : (Cond.methodLink RL 85 yX11_promise) ∈ oa_GT := oa_g6 13 rfl rfl
theorem gh_1299 : (Cond.instanceMethod yX11_promise) ∈ oa_GT := oa_g6 14 rfl rfl
theorem gh_1300 : (Cond.selects RX11 yX11_promise yX11_promise) ∈ oa_GT := oa_g6 15 rfl rfl
theorem gh_1304 : (oa_cwH mL_promiseOf) ∈ oa_GT := oa_g6 19 rfl rfl
theorem gh_1305 : (Cond.methodLink RL 88 yX11_promiseOf) ∈ oa_GT := oa_g6 20 rfl rfl
theorem gh_1306 : (Cond.instanceMethod yX11_promiseOf) ∈ oa_GT := oa_g6 21 rfl rfl
theorem gh_1307 : (Cond.selects RX11 yX11_promiseOf yX11_promiseOf) ∈ oa_GT := oa_g6 22 rfl rfl
theorem gh_1315 : (oa_cwH mL_delayingPart) ∈ oa_GT := oa_g6 30 rfl rfl
theorem gh_1316 : (Cond.methodLink RL 91 yX11_delayingPart) ∈ oa_GT := oa_g6 31 rfl rfl
theorem gh_1317 : (Cond.instanceMethod yX11_delayingPart) ∈ oa_GT := oa_g6 32 rfl rfl
theorem gh_1318 : (Cond.selects RX11 yX11_delayingPart yX11_delayingPart) ∈ oa_GT := oa_g6 33 rfl rfl
theorem gh_1322 : (oa_cwH mL_wouldGet) ∈ oa_GT := oa_g6 37 rfl rfl
theorem gh_1323 : (Cond.methodLink RL 94 yX11_wouldGet) ∈ oa_GT := oa_g6 38 rfl rfl
theorem gh_1324 : (Cond.instanceMethod yX11_wouldGet) ∈ oa_GT := oa_g6 39 rfl rfl
theorem gh_1325 : (Cond.selects RX11 yX11_wouldGet yX11_wouldGet) ∈ oa_GT := oa_g6 40 rfl rfl
theorem gh_1329 : (oa_cwH mL_rungOf) ∈ oa_GT := oa_g6 44 rfl rfl
theorem gh_1330 : (Cond.methodLink RL 97 yX11_rungOf) ∈ oa_GT := oa_g6 45 rfl rfl
theorem gh_1331 : (Cond.instanceMethod yX11_rungOf) ∈ oa_GT := oa_g6 46 rfl rfl
theorem gh_1332 : (Cond.selects RX11 yX11_rungOf yX11_rungOf) ∈ oa_GT := oa_g6 47 rfl rfl
theorem gh_1340 : (oa_cwH mL_rungUnits) ∈ oa_GT := oa_g6 55 rfl rfl
theorem gh_1341 : (Cond.methodLink RL 100 yX11_rungUnits) ∈ oa_GT := oa_g6 56 rfl rfl
theorem gh_1342 : (Cond.instanceMethod yX11_rungUnits) ∈ oa_GT := oa_g6 57 rfl rfl
theorem gh_1343 : (Cond.selects RX11 yX11_rungUnits yX11_rungUnits) ∈ oa_GT := oa_g6 58 rfl rfl
theorem gh_1356 : (oa_cwH mL_missingPieces) ∈ oa_GT := oa_g6 71 rfl rfl
theorem gh_1357 : (Cond.methodLink RL 103 yX11_missingPieces) ∈ oa_GT := oa_g6 72 rfl rfl
theorem gh_1358 : (Cond.instanceMethod yX11_missingPieces) ∈ oa_GT := oa_g6 73 rfl rfl
theorem gh_1359 : (Cond.selects RX11 yX11_missingPieces yX11_missingPieces) ∈ oa_GT := oa_g6 74 rfl rfl
theorem gh_1363 : (oa_cwH mL_buildableAfter) ∈ oa_GT := oa_g6 78 rfl rfl
theorem gh_1364 : (Cond.methodLink RL 106 yX11_buildableAfter) ∈ oa_GT := oa_g6 79 rfl rfl
theorem gh_1365 : (Cond.instanceMethod yX11_buildableAfter) ∈ oa_GT := oa_g6 80 rfl rfl
theorem gh_1366 : (Cond.selects RX11 yX11_buildableAfter yX11_buildableAfter) ∈ oa_GT := oa_g6 81 rfl rfl
theorem gh_1371 : (oa_cwH mL_addOrder) ∈ oa_GT := oa_g6 86 rfl rfl
theorem gh_1372 : (Cond.classLink RL 114 "java/lang/IllegalStateException") ∈ oa_GT := oa_g6 87 rfl rfl
theorem gh_1373 : (Cond.methodLink RL 110 yX11_addOrder) ∈ oa_GT := oa_g6 88 rfl rfl
theorem gh_1374 : (Cond.instanceMethod yX11_addOrder) ∈ oa_GT := oa_g6 89 rfl rfl
theorem gh_1375 : (Cond.selects RX11 yX11_addOrder yX11_addOrder) ∈ oa_GT := oa_g6 90 rfl rfl
theorem gh_1399 : (oa_cwH mL_cancel) ∈ oa_GT := oa_g6 114 rfl rfl
theorem gh_1400 : (Cond.methodLink RL 116 yX11_cancel) ∈ oa_GT := oa_g6 115 rfl rfl
theorem gh_1401 : (Cond.instanceMethod yX11_cancel) ∈ oa_GT := oa_g6 116 rfl rfl
theorem gh_1402 : (Cond.selects RX11 yX11_cancel yX11_cancel) ∈ oa_GT := oa_g6 117 rfl rfl
theorem gh_1410 : (oa_cwH mL_reserve) ∈ oa_GT := oa_g6 125 rfl rfl
theorem gh_1411 : (Cond.methodLink RL 119 yX11_reserve) ∈ oa_GT := oa_g6 126 rfl rfl
theorem gh_1412 : (Cond.instanceMethod yX11_reserve) ∈ oa_GT := oa_g6 127 rfl rfl
theorem gh_1413 : (Cond.selects RX11 yX11_reserve yX11_reserve) ∈ oa_GT := oa_g6 128 rfl rfl
theorem gh_1423 : (oa_cwH mL_release) ∈ oa_GT := oa_g6 138 rfl rfl
theorem gh_1424 : (Cond.methodLink RL 122 yX11_release) ∈ oa_GT := oa_g6 139 rfl rfl
theorem gh_1425 : (Cond.instanceMethod yX11_release) ∈ oa_GT := oa_g6 140 rfl rfl
theorem gh_1426 : (Cond.selects RX11 yX11_release yX11_release) ∈ oa_GT := oa_g6 141 rfl rfl
theorem gh_1430 : (oa_cwH mL_ship) ∈ oa_GT := oa_g6 145 rfl rfl
theorem gh_1431 : (Cond.methodLink RL 125 yX11_ship) ∈ oa_GT := oa_g6 146 rfl rfl
theorem gh_1432 : (Cond.instanceMethod yX11_ship) ∈ oa_GT := oa_g6 147 rfl rfl
theorem gh_1433 : (Cond.selects RX11 yX11_ship yX11_ship) ∈ oa_GT := oa_g6 148 rfl rfl
theorem gh_1454 : (oa_cwH mL_buy) ∈ oa_GT := oa_g6 169 rfl rfl
theorem gh_1455 : (Cond.methodLink RL 128 yX11_buy) ∈ oa_GT := oa_g6 170 rfl rfl
theorem gh_1456 : (Cond.instanceMethod yX11_buy) ∈ oa_GT := oa_g6 171 rfl rfl
theorem gh_1457 : (Cond.selects RX11 yX11_buy yX11_buy) ∈ oa_GT := oa_g6 172 rfl rfl
theorem gh_1469 : (oa_cwH mL_adjust) ∈ oa_GT := oa_g6 184 rfl rfl
theorem gh_1470 : (Cond.methodLink RL 131 yX11_adjust) ∈ oa_GT := oa_g6 185 rfl rfl
theorem gh_1471 : (Cond.instanceMethod yX11_adjust) ∈ oa_GT := oa_g6 186 rfl rfl
theorem gh_1472 : (Cond.selects RX11 yX11_adjust yX11_adjust) ∈ oa_GT := oa_g6 187 rfl rfl
theorem gh_1493 : (oa_cwH mL_advance) ∈ oa_GT := oa_g6 208 rfl rfl
theorem gh_1494 : (Cond.methodLink RL 134 yX11_advance) ∈ oa_GT := oa_g6 209 rfl rfl
theorem gh_1495 : (Cond.instanceMethod yX11_advance) ∈ oa_GT := oa_g6 210 rfl rfl
theorem gh_1496 : (Cond.selects RX11 yX11_advance yX11_advance) ∈ oa_GT := oa_g6 211 rfl rfl
theorem gh_1505 : (oa_cwH mL_formatOrder) ∈ oa_GT := oa_g6 220 rfl rfl
theorem gh_1506 : (Cond.methodLink RL 137 yX11_formatOrder) ∈ oa_GT := oa_g6 221 rfl rfl
theorem gh_1507 : (Cond.instanceMethod yX11_formatOrder) ∈ oa_GT := oa_g6 222 rfl rfl
theorem gh_1508 : (Cond.selects RX11 yX11_formatOrder yX11_formatOrder) ∈ oa_GT := oa_g6 223 rfl rfl
theorem gh_1548 : (oa_cwH mL_formatNeeds) ∈ oa_GT := oa_g7 23 rfl rfl
theorem gh_1549 : (Cond.methodLink RL 140 yX11_formatNeeds) ∈ oa_GT := oa_g7 24 rfl rfl
theorem gh_1550 : (Cond.instanceMethod yX11_formatNeeds) ∈ oa_GT := oa_g7 25 rfl rfl
theorem gh_1551 : (Cond.selects RX11 yX11_formatNeeds yX11_formatNeeds) ∈ oa_GT := oa_g7 26 rfl rfl
theorem dL_load_0 : decode cL_load 0 = .ok (.aload_n 1, 1) := by decide +kernel
theorem dL_load_1 : decode cL_load 1 = .ok (.iconst 0, 1) := by decide +kernel
theorem dL_load_2 : decode cL_load 2 = .ok (.aload_n 0, 1) := by decide +kernel
theorem dL_load_3 : decode cL_load 3 = .ok (.invokevirtual 7, 3) := by decide +kernel
theorem dL_load_6 : decode cL_load 6 = .ok (.i2l, 1) := by decide +kernel
theorem dL_load_7 : decode cL_load 7 = .ok (.lastore, 1) := by decide +kernel
theorem dL_load_8 : decode cL_load 8 = .ok (.goto 6, 3) := by decide +kernel
theorem dL_load_11 : decode cL_load 11 = .ok (.astore_n 2, 1) := by decide +kernel
theorem dL_load_12 : decode cL_load 12 = .ok (.iconst 1, 1) := by decide +kernel
theorem dL_load_13 : decode cL_load 13 = .ok (.ireturn, 1) := by decide +kernel
theorem dL_load_14 : decode cL_load 14 = .ok (.iconst 0, 1) := by decide +kernel
theorem dL_load_15 : decode cL_load 15 = .ok (.ireturn, 1) := by decide +kernel
theorem ct_L_load_1 : oa_ct mL_load 3 "java/lang/IllegalArgumentException" 1 := ⟨[], [], (0, 8, 11, 13), "java/lang/IllegalArgumentException", 2, 12, rfl, (fun _ z => nomatch z), by decide, by decide, gh_738, (List.mem_of_getElem? (i := 964) (by decide +kernel)), by decide, Or.inl ⟨2, rfl, dL_load_11, rfl⟩, ⟨1, dL_load_12, by decide⟩, dL_load_13, rfl⟩
theorem ch_L_load {d k : Nat} {h : Hp} {P : Int32 → Hp → Prop} {Qx : String → Hp → Prop} (hk : k ≤ 1) (cc : CL k d mX11_load [vR 11 0] h (oI fun r h' => P 0 (hp_l h' 66 0 0 r.toInt64)) (fun E h' => (E = "java/lang/IllegalArgumentException" ∧ P 1 h'))) : CLH 1 (d + 1) mL_load [vR 11 0, vR 66 0] h (oI P) Qx := by
  refine CLH.of rfl (Nat.le_of_ble_eq_true rfl) ?_
  refine aw_aload_n (j := 1) (i := 1) dL_load_0 rfl rfl rfl ?_
  refine aw_iconst (v := 0) dL_load_1 rfl (by decide) ?_
  refine aw_aload_n (j := 0) (i := 0) dL_load_2 rfl rfl rfl ?_
  refine aw_callVT (M' := mX11_load) (S := [vI 0, vR 66 0]) (as := []) (k := k) dL_load_3 rfl (by decide) rfl rfl gh_739 gh_740 gh_741 mb_X11_load hk (Nat.le_of_ble_eq_true rfl) rfl (CL.imp cc (fun v h1 k1 => ?_) (fun E h1 k1 => ?_))
  · obtain ⟨r, rfl, k1⟩ := oI_of k1
    show AW _ (d + 1) (1 - k) mL_load 6 _ [vI r, vI 0, vR 66 0] h1 _ _
    refine aw_i2l dL_load_6 rfl ?_
    refine aw_last dL_load_7 rfl (by decide) rfl oa_in01 ?_
    refine aw_goto 14 dL_load_8 rfl ?_
    refine aw_iconst (v := 0) dL_load_14 rfl (by decide) ?_
    exact aw_iret dL_load_15 rfl k1
  · obtain ⟨rfl, k1⟩ := k1
    exact ⟨1, ct_L_load_1, k1⟩
theorem mb_L_load : oa_MBH mL_load 2 := ⟨gh_737, gh_85, ⟨by decide +kernel, by decide +kernel⟩, by decide +kernel, by decide⟩
theorem dL_lineCount_0 : decode cL_lineCount 0 = .ok (.aload_n 2, 1) := by decide +kernel
theorem dL_lineCount_1 : decode cL_lineCount 1 = .ok (.iconst 0, 1) := by decide +kernel
theorem dL_lineCount_2 : decode cL_lineCount 2 = .ok (.aload_n 0, 1) := by decide +kernel
theorem dL_lineCount_3 : decode cL_lineCount 3 = .ok (.iload_n 1, 1) := by decide +kernel
theorem dL_lineCount_4 : decode cL_lineCount 4 = .ok (.invokevirtual 15, 3) := by decide +kernel
theorem dL_lineCount_7 : decode cL_lineCount 7 = .ok (.i2l, 1) := by decide +kernel
theorem dL_lineCount_8 : decode cL_lineCount 8 = .ok (.lastore, 1) := by decide +kernel
theorem dL_lineCount_9 : decode cL_lineCount 9 = .ok (.goto 6, 3) := by decide +kernel
theorem dL_lineCount_12 : decode cL_lineCount 12 = .ok (.astore_n 3, 1) := by decide +kernel
theorem dL_lineCount_13 : decode cL_lineCount 13 = .ok (.iconst 1, 1) := by decide +kernel
theorem dL_lineCount_14 : decode cL_lineCount 14 = .ok (.ireturn, 1) := by decide +kernel
theorem dL_lineCount_15 : decode cL_lineCount 15 = .ok (.iconst 0, 1) := by decide +kernel
theorem dL_lineCount_16 : decode cL_lineCount 16 = .ok (.ireturn, 1) := by decide +kernel
theorem ct_L_lineCount_1 : oa_ct mL_lineCount 4 "java/lang/IndexOutOfBoundsException" 1 := ⟨[], [], (0, 9, 12, 19), "java/lang/IndexOutOfBoundsException", 3, 13, rfl, (fun _ z => nomatch z), by decide, by decide, gh_1044, (List.mem_of_getElem? (i := 1056) (by decide +kernel)), by decide, Or.inl ⟨3, rfl, dL_lineCount_12, rfl⟩, ⟨1, dL_lineCount_13, by decide⟩, dL_lineCount_14, rfl⟩
theorem ch_L_lineCount {d k : Nat} {h : Hp} {a1 : Int32} {P : Int32 → Hp → Prop} {Qx : String → Hp → Prop} (hk : k ≤ 1) (cc : CL k d mX11_lineCount [vR 11 0, vI a1] h (oI fun r h' => P 0 (hp_l h' 66 0 0 r.toInt64)) (fun E h' => (E = "java/lang/IndexOutOfBoundsException" ∧ P 1 h'))) : CLH 1 (d + 1) mL_lineCount [vR 11 0, vI a1, vR 66 0] h (oI P) Qx := by
  refine CLH.of rfl (Nat.le_of_ble_eq_true rfl) ?_
  refine aw_aload_n (j := 2) (i := 2) dL_lineCount_0 rfl rfl rfl ?_
  refine aw_iconst (v := 0) dL_lineCount_1 rfl (by decide) ?_
  refine aw_aload_n (j := 0) (i := 0) dL_lineCount_2 rfl rfl rfl ?_
  refine aw_iload_n (j := 1) (i := 1) dL_lineCount_3 rfl rfl rfl ?_
  refine aw_callVT (M' := mX11_lineCount) (S := [vI 0, vR 66 0]) (as := [vI a1]) (k := k) dL_lineCount_4 rfl (by decide) rfl rfl gh_1045 gh_1046 gh_1047 mb_X11_lineCount hk (Nat.le_of_ble_eq_true rfl) rfl (CL.imp cc (fun v h1 k1 => ?_) (fun E h1 k1 => ?_))
  · obtain ⟨r, rfl, k1⟩ := oI_of k1
    show AW _ (d + 1) (1 - k) mL_lineCount 7 _ [vI r, vI 0, vR 66 0] h1 _ _
    refine aw_i2l dL_lineCount_7 rfl ?_
    refine aw_last dL_lineCount_8 rfl (by decide) rfl oa_in01 ?_
    refine aw_goto 15 dL_lineCount_9 rfl ?_
    refine aw_iconst (v := 0) dL_lineCount_15 rfl (by decide) ?_
    exact aw_iret dL_lineCount_16 rfl k1
  · obtain ⟨rfl, k1⟩ := k1
    exact ⟨1, ct_L_lineCount_1, k1⟩
theorem mb_L_lineCount : oa_MBH mL_lineCount 3 := ⟨gh_1043, gh_85, ⟨by decide +kernel, by decide +kernel⟩, by decide +kernel, by decide⟩
theorem dL_lineItem_0 : decode cL_lineItem 0 = .ok (.aload_n 3, 1) := by decide +kernel
theorem dL_lineItem_1 : decode cL_lineItem 1 = .ok (.iconst 0, 1) := by decide +kernel
theorem dL_lineItem_2 : decode cL_lineItem 2 = .ok (.aload_n 0, 1) := by decide +kernel
theorem dL_lineItem_3 : decode cL_lineItem 3 = .ok (.iload_n 1, 1) := by decide +kernel
theorem dL_lineItem_4 : decode cL_lineItem 4 = .ok (.iload_n 2, 1) := by decide +kernel
theorem dL_lineItem_5 : decode cL_lineItem 5 = .ok (.invokevirtual 21, 3) := by decide +kernel
theorem dL_lineItem_8 : decode cL_lineItem 8 = .ok (.i2l, 1) := by decide +kernel
theorem dL_lineItem_9 : decode cL_lineItem 9 = .ok (.lastore, 1) := by decide +kernel
theorem dL_lineItem_10 : decode cL_lineItem 10 = .ok (.goto 7, 3) := by decide +kernel
theorem dL_lineItem_13 : decode cL_lineItem 13 = .ok (.astore 4, 2) := by decide +kernel
theorem dL_lineItem_15 : decode cL_lineItem 15 = .ok (.iconst 1, 1) := by decide +kernel
theorem dL_lineItem_16 : decode cL_lineItem 16 = .ok (.ireturn, 1) := by decide +kernel
theorem dL_lineItem_17 : decode cL_lineItem 17 = .ok (.iconst 0, 1) := by decide +kernel
theorem dL_lineItem_18 : decode cL_lineItem 18 = .ok (.ireturn, 1) := by decide +kernel
theorem ct_L_lineItem_1 : oa_ct mL_lineItem 5 "java/lang/IndexOutOfBoundsException" 1 := ⟨[], [], (0, 10, 13, 19), "java/lang/IndexOutOfBoundsException", 4, 15, rfl, (fun _ z => nomatch z), by decide, by decide, gh_1044, (List.mem_of_getElem? (i := 1056) (by decide +kernel)), by decide, Or.inr ⟨dL_lineItem_13, rfl⟩, ⟨1, dL_lineItem_15, by decide⟩, dL_lineItem_16, rfl⟩
theorem ch_L_lineItem {d k : Nat} {h : Hp} {a1 a2 : Int32} {P : Int32 → Hp → Prop} {Qx : String → Hp → Prop} (hk : k ≤ 1) (cc : CL k d mX11_lineItem [vR 11 0, vI a1, vI a2] h (oI fun r h' => P 0 (hp_l h' 66 0 0 r.toInt64)) (fun E h' => (E = "java/lang/IndexOutOfBoundsException" ∧ P 1 h'))) : CLH 1 (d + 1) mL_lineItem [vR 11 0, vI a1, vI a2, vR 66 0] h (oI P) Qx := by
  refine CLH.of rfl (Nat.le_of_ble_eq_true rfl) ?_
  refine aw_aload_n (j := 3) (i := 3) dL_lineItem_0 rfl rfl rfl ?_
  refine aw_iconst (v := 0) dL_lineItem_1 rfl (by decide) ?_
  refine aw_aload_n (j := 0) (i := 0) dL_lineItem_2 rfl rfl rfl ?_
  refine aw_iload_n (j := 1) (i := 1) dL_lineItem_3 rfl rfl rfl ?_
  refine aw_iload_n (j := 2) (i := 2) dL_lineItem_4 rfl rfl rfl ?_
  refine aw_callVT (M' := mX11_lineItem) (S := [vI 0, vR 66 0]) (as := [vI a1, vI a2]) (k := k) dL_lineItem_5 rfl (by decide) rfl rfl gh_1077 gh_1078 gh_1079 mb_X11_lineItem hk (Nat.le_of_ble_eq_true rfl) rfl (CL.imp cc (fun v h1 k1 => ?_) (fun E h1 k1 => ?_))
  · obtain ⟨r, rfl, k1⟩ := oI_of k1
    show AW _ (d + 1) (1 - k) mL_lineItem 8 _ [vI r, vI 0, vR 66 0] h1 _ _
    refine aw_i2l dL_lineItem_8 rfl ?_
    refine aw_last dL_lineItem_9 rfl (by decide) rfl oa_in01 ?_
    refine aw_goto 17 dL_lineItem_10 rfl ?_
    refine aw_iconst (v := 0) dL_lineItem_17 rfl (by decide) ?_
    exact aw_iret dL_lineItem_18 rfl k1
  · obtain ⟨rfl, k1⟩ := k1
    exact ⟨1, ct_L_lineItem_1, k1⟩
theorem mb_L_lineItem : oa_MBH mL_lineItem 4 := ⟨gh_1076, gh_85, ⟨by decide +kernel, by decide +kernel⟩, by decide +kernel, by decide⟩
theorem dL_lineQuantity_0 : decode cL_lineQuantity 0 = .ok (.aload_n 3, 1) := by decide +kernel
theorem dL_lineQuantity_1 : decode cL_lineQuantity 1 = .ok (.iconst 0, 1) := by decide +kernel
theorem dL_lineQuantity_2 : decode cL_lineQuantity 2 = .ok (.aload_n 0, 1) := by decide +kernel
theorem dL_lineQuantity_3 : decode cL_lineQuantity 3 = .ok (.iload_n 1, 1) := by decide +kernel
theorem dL_lineQuantity_4 : decode cL_lineQuantity 4 = .ok (.iload_n 2, 1) := by decide +kernel
theorem dL_lineQuantity_5 : decode cL_lineQuantity 5 = .ok (.invokevirtual 25, 3) := by decide +kernel
theorem dL_lineQuantity_8 : decode cL_lineQuantity 8 = .ok (.i2l, 1) := by decide +kernel
theorem dL_lineQuantity_9 : decode cL_lineQuantity 9 = .ok (.lastore, 1) := by decide +kernel
theorem dL_lineQuantity_10 : decode cL_lineQuantity 10 = .ok (.goto 7, 3) := by decide +kernel
theorem dL_lineQuantity_13 : decode cL_lineQuantity 13 = .ok (.astore 4, 2) := by decide +kernel
theorem dL_lineQuantity_15 : decode cL_lineQuantity 15 = .ok (.iconst 1, 1) := by decide +kernel
theorem dL_lineQuantity_16 : decode cL_lineQuantity 16 = .ok (.ireturn, 1) := by decide +kernel
theorem dL_lineQuantity_17 : decode cL_lineQuantity 17 = .ok (.iconst 0, 1) := by decide +kernel
theorem dL_lineQuantity_18 : decode cL_lineQuantity 18 = .ok (.ireturn, 1) := by decide +kernel
theorem ct_L_lineQuantity_1 : oa_ct mL_lineQuantity 5 "java/lang/IndexOutOfBoundsException" 1 := ⟨[], [], (0, 10, 13, 19), "java/lang/IndexOutOfBoundsException", 4, 15, rfl, (fun _ z => nomatch z), by decide, by decide, gh_1044, (List.mem_of_getElem? (i := 1056) (by decide +kernel)), by decide, Or.inr ⟨dL_lineQuantity_13, rfl⟩, ⟨1, dL_lineQuantity_15, by decide⟩, dL_lineQuantity_16, rfl⟩
theorem ch_L_lineQuantity {d k : Nat} {h : Hp} {a1 a2 : Int32} {P : Int32 → Hp → Prop} {Qx : String → Hp → Prop} (hk : k ≤ 1) (cc : CL k d mX11_lineQuantity [vR 11 0, vI a1, vI a2] h (oI fun r h' => P 0 (hp_l h' 66 0 0 r.toInt64)) (fun E h' => (E = "java/lang/IndexOutOfBoundsException" ∧ P 1 h'))) : CLH 1 (d + 1) mL_lineQuantity [vR 11 0, vI a1, vI a2, vR 66 0] h (oI P) Qx := by
  refine CLH.of rfl (Nat.le_of_ble_eq_true rfl) ?_
  refine aw_aload_n (j := 3) (i := 3) dL_lineQuantity_0 rfl rfl rfl ?_
  refine aw_iconst (v := 0) dL_lineQuantity_1 rfl (by decide) ?_
  refine aw_aload_n (j := 0) (i := 0) dL_lineQuantity_2 rfl rfl rfl ?_
  refine aw_iload_n (j := 1) (i := 1) dL_lineQuantity_3 rfl rfl rfl ?_
  refine aw_iload_n (j := 2) (i := 2) dL_lineQuantity_4 rfl rfl rfl ?_
  refine aw_callVT (M' := mX11_lineQuantity) (S := [vI 0, vR 66 0]) (as := [vI a1, vI a2]) (k := k) dL_lineQuantity_5 rfl (by decide) rfl rfl gh_1089 gh_1090 gh_1091 mb_X11_lineQuantity hk (Nat.le_of_ble_eq_true rfl) rfl (CL.imp cc (fun v h1 k1 => ?_) (fun E h1 k1 => ?_))
  · obtain ⟨r, rfl, k1⟩ := oI_of k1
    show AW _ (d + 1) (1 - k) mL_lineQuantity 8 _ [vI r, vI 0, vR 66 0] h1 _ _
    refine aw_i2l dL_lineQuantity_8 rfl ?_
    refine aw_last dL_lineQuantity_9 rfl (by decide) rfl oa_in01 ?_
    refine aw_goto 17 dL_lineQuantity_10 rfl ?_
    refine aw_iconst (v := 0) dL_lineQuantity_17 rfl (by decide) ?_
    exact aw_iret dL_lineQuantity_18 rfl k1
  · obtain ⟨rfl, k1⟩ := k1
    exact ⟨1, ct_L_lineQuantity_1, k1⟩
theorem mb_L_lineQuantity : oa_MBH mL_lineQuantity 4 := ⟨gh_1088, gh_85, ⟨by decide +kernel, by decide +kernel⟩, by decide +kernel, by decide⟩
theorem dL_need_0 : decode cL_need 0 = .ok (.aload_n 3, 1) := by decide +kernel
theorem dL_need_1 : decode cL_need 1 = .ok (.iconst 0, 1) := by decide +kernel
theorem dL_need_2 : decode cL_need 2 = .ok (.aload_n 0, 1) := by decide +kernel
theorem dL_need_3 : decode cL_need 3 = .ok (.iload_n 1, 1) := by decide +kernel
theorem dL_need_4 : decode cL_need 4 = .ok (.iload_n 2, 1) := by decide +kernel
theorem dL_need_5 : decode cL_need 5 = .ok (.invokevirtual 28, 3) := by decide +kernel
theorem dL_need_8 : decode cL_need 8 = .ok (.i2l, 1) := by decide +kernel
theorem dL_need_9 : decode cL_need 9 = .ok (.lastore, 1) := by decide +kernel
theorem dL_need_10 : decode cL_need 10 = .ok (.goto 7, 3) := by decide +kernel
theorem dL_need_13 : decode cL_need 13 = .ok (.astore 4, 2) := by decide +kernel
theorem dL_need_15 : decode cL_need 15 = .ok (.iconst 1, 1) := by decide +kernel
theorem dL_need_16 : decode cL_need 16 = .ok (.ireturn, 1) := by decide +kernel
theorem dL_need_17 : decode cL_need 17 = .ok (.iconst 0, 1) := by decide +kernel
theorem dL_need_18 : decode cL_need 18 = .ok (.ireturn, 1) := by decide +kernel
theorem ct_L_need_1 : oa_ct mL_need 5 "java/lang/IndexOutOfBoundsException" 1 := ⟨[], [], (0, 10, 13, 19), "java/lang/IndexOutOfBoundsException", 4, 15, rfl, (fun _ z => nomatch z), by decide, by decide, gh_1044, (List.mem_of_getElem? (i := 1056) (by decide +kernel)), by decide, Or.inr ⟨dL_need_13, rfl⟩, ⟨1, dL_need_15, by decide⟩, dL_need_16, rfl⟩
theorem ch_L_need {d k : Nat} {h : Hp} {a1 a2 : Int32} {P : Int32 → Hp → Prop} {Qx : String → Hp → Prop} (hk : k ≤ 1) (cc : CL k d mX11_need [vR 11 0, vI a1, vI a2] h (oI fun r h' => P 0 (hp_l h' 66 0 0 r.toInt64)) (fun E h' => (E = "java/lang/IndexOutOfBoundsException" ∧ P 1 h'))) : CLH 1 (d + 1) mL_need [vR 11 0, vI a1, vI a2, vR 66 0] h (oI P) Qx := by
  refine CLH.of rfl (Nat.le_of_ble_eq_true rfl) ?_
  refine aw_aload_n (j := 3) (i := 3) dL_need_0 rfl rfl rfl ?_
  refine aw_iconst (v := 0) dL_need_1 rfl (by decide) ?_
  refine aw_aload_n (j := 0) (i := 0) dL_need_2 rfl rfl rfl ?_
  refine aw_iload_n (j := 1) (i := 1) dL_need_3 rfl rfl rfl ?_
  refine aw_iload_n (j := 2) (i := 2) dL_need_4 rfl rfl rfl ?_
  refine aw_callVT (M' := mX11_need) (S := [vI 0, vR 66 0]) (as := [vI a1, vI a2]) (k := k) dL_need_5 rfl (by decide) rfl rfl gh_1100 gh_1101 gh_1102 mb_X11_need hk (Nat.le_of_ble_eq_true rfl) rfl (CL.imp cc (fun v h1 k1 => ?_) (fun E h1 k1 => ?_))
  · obtain ⟨r, rfl, k1⟩ := oI_of k1
    show AW _ (d + 1) (1 - k) mL_need 8 _ [vI r, vI 0, vR 66 0] h1 _ _
    refine aw_i2l dL_need_8 rfl ?_
    refine aw_last dL_need_9 rfl (by decide) rfl oa_in01 ?_
    refine aw_goto 17 dL_need_10 rfl ?_
    refine aw_iconst (v := 0) dL_need_17 rfl (by decide) ?_
    exact aw_iret dL_need_18 rfl k1
  · obtain ⟨rfl, k1⟩ := k1
    exact ⟨1, ct_L_need_1, k1⟩
theorem mb_L_need : oa_MBH mL_need 4 := ⟨gh_1099, gh_85, ⟨by decide +kernel, by decide +kernel⟩, by decide +kernel, by decide⟩
theorem dL_level_0 : decode cL_level 0 = .ok (.aload_n 2, 1) := by decide +kernel
theorem dL_level_1 : decode cL_level 1 = .ok (.iconst 0, 1) := by decide +kernel
theorem dL_level_2 : decode cL_level 2 = .ok (.aload_n 0, 1) := by decide +kernel
theorem dL_level_3 : decode cL_level 3 = .ok (.iload_n 1, 1) := by decide +kernel
theorem dL_level_4 : decode cL_level 4 = .ok (.invokevirtual 31, 3) := by decide +kernel
theorem dL_level_7 : decode cL_level 7 = .ok (.i2l, 1) := by decide +kernel
theorem dL_level_8 : decode cL_level 8 = .ok (.lastore, 1) := by decide +kernel
theorem dL_level_9 : decode cL_level 9 = .ok (.goto 6, 3) := by decide +kernel
theorem dL_level_12 : decode cL_level 12 = .ok (.astore_n 3, 1) := by decide +kernel
theorem dL_level_13 : decode cL_level 13 = .ok (.iconst 1, 1) := by decide +kernel
theorem dL_level_14 : decode cL_level 14 = .ok (.ireturn, 1) := by decide +kernel
theorem dL_level_15 : decode cL_level 15 = .ok (.iconst 0, 1) := by decide +kernel
theorem dL_level_16 : decode cL_level 16 = .ok (.ireturn, 1) := by decide +kernel
theorem ct_L_level_1 : oa_ct mL_level 4 "java/lang/IndexOutOfBoundsException" 1 := ⟨[], [], (0, 9, 12, 19), "java/lang/IndexOutOfBoundsException", 3, 13, rfl, (fun _ z => nomatch z), by decide, by decide, gh_1044, (List.mem_of_getElem? (i := 1056) (by decide +kernel)), by decide, Or.inl ⟨3, rfl, dL_level_12, rfl⟩, ⟨1, dL_level_13, by decide⟩, dL_level_14, rfl⟩
theorem ch_L_level {d k : Nat} {h : Hp} {a1 : Int32} {P : Int32 → Hp → Prop} {Qx : String → Hp → Prop} (hk : k ≤ 1) (cc : CL k d mX11_level [vR 11 0, vI a1] h (oI fun r h' => P 0 (hp_l h' 66 0 0 r.toInt64)) (fun E h' => (E = "java/lang/IndexOutOfBoundsException" ∧ P 1 h'))) : CLH 1 (d + 1) mL_level [vR 11 0, vI a1, vR 66 0] h (oI P) Qx := by
  refine CLH.of rfl (Nat.le_of_ble_eq_true rfl) ?_
  refine aw_aload_n (j := 2) (i := 2) dL_level_0 rfl rfl rfl ?_
  refine aw_iconst (v := 0) dL_level_1 rfl (by decide) ?_
  refine aw_aload_n (j := 0) (i := 0) dL_level_2 rfl rfl rfl ?_
  refine aw_iload_n (j := 1) (i := 1) dL_level_3 rfl rfl rfl ?_
  refine aw_callVT (M' := mX11_level) (S := [vI 0, vR 66 0]) (as := [vI a1]) (k := k) dL_level_4 rfl (by decide) rfl rfl gh_1112 gh_1113 gh_1114 mb_X11_level hk (Nat.le_of_ble_eq_true rfl) rfl (CL.imp cc (fun v h1 k1 => ?_) (fun E h1 k1 => ?_))
  · obtain ⟨r, rfl, k1⟩ := oI_of k1
    show AW _ (d + 1) (1 - k) mL_level 7 _ [vI r, vI 0, vR 66 0] h1 _ _
    refine aw_i2l dL_level_7 rfl ?_
    refine aw_last dL_level_8 rfl (by decide) rfl oa_in01 ?_
    refine aw_goto 15 dL_level_9 rfl ?_
    refine aw_iconst (v := 0) dL_level_15 rfl (by decide) ?_
    exact aw_iret dL_level_16 rfl k1
  · obtain ⟨rfl, k1⟩ := k1
    exact ⟨1, ct_L_level_1, k1⟩
theorem mb_L_level : oa_MBH mL_level 3 := ⟨gh_1111, gh_85, ⟨by decide +kernel, by decide +kernel⟩, by decide +kernel, by decide⟩
theorem dL_pieces_0 : decode cL_pieces 0 = .ok (.aload_n 2, 1) := by decide +kernel
theorem dL_pieces_1 : decode cL_pieces 1 = .ok (.iconst 0, 1) := by decide +kernel
theorem dL_pieces_2 : decode cL_pieces 2 = .ok (.aload_n 0, 1) := by decide +kernel
theorem dL_pieces_3 : decode cL_pieces 3 = .ok (.iload_n 1, 1) := by decide +kernel
theorem dL_pieces_4 : decode cL_pieces 4 = .ok (.invokevirtual 34, 3) := by decide +kernel
theorem dL_pieces_7 : decode cL_pieces 7 = .ok (.i2l, 1) := by decide +kernel
theorem dL_pieces_8 : decode cL_pieces 8 = .ok (.lastore, 1) := by decide +kernel
theorem dL_pieces_9 : decode cL_pieces 9 = .ok (.goto 6, 3) := by decide +kernel
theorem dL_pieces_12 : decode cL_pieces 12 = .ok (.astore_n 3, 1) := by decide +kernel
theorem dL_pieces_13 : decode cL_pieces 13 = .ok (.iconst 1, 1) := by decide +kernel
theorem dL_pieces_14 : decode cL_pieces 14 = .ok (.ireturn, 1) := by decide +kernel
theorem dL_pieces_15 : decode cL_pieces 15 = .ok (.iconst 0, 1) := by decide +kernel
theorem dL_pieces_16 : decode cL_pieces 16 = .ok (.ireturn, 1) := by decide +kernel
theorem ct_L_pieces_1 : oa_ct mL_pieces 4 "java/lang/IndexOutOfBoundsException" 1 := ⟨[], [], (0, 9, 12, 19), "java/lang/IndexOutOfBoundsException", 3, 13, rfl, (fun _ z => nomatch z), by decide, by decide, gh_1044, (List.mem_of_getElem? (i := 1056) (by decide +kernel)), by decide, Or.inl ⟨3, rfl, dL_pieces_12, rfl⟩, ⟨1, dL_pieces_13, by decide⟩, dL_pieces_14, rfl⟩
theorem ch_L_pieces {d k : Nat} {h : Hp} {a1 : Int32} {P : Int32 → Hp → Prop} {Qx : String → Hp → Prop} (hk : k ≤ 1) (cc : CL k d mX11_pieces [vR 11 0, vI a1] h (oI fun r h' => P 0 (hp_l h' 66 0 0 r.toInt64)) (fun E h' => (E = "java/lang/IndexOutOfBoundsException" ∧ P 1 h'))) : CLH 1 (d + 1) mL_pieces [vR 11 0, vI a1, vR 66 0] h (oI P) Qx := by
  refine CLH.of rfl (Nat.le_of_ble_eq_true rfl) ?_
  refine aw_aload_n (j := 2) (i := 2) dL_pieces_0 rfl rfl rfl ?_
  refine aw_iconst (v := 0) dL_pieces_1 rfl (by decide) ?_
  refine aw_aload_n (j := 0) (i := 0) dL_pieces_2 rfl rfl rfl ?_
  refine aw_iload_n (j := 1) (i := 1) dL_pieces_3 rfl rfl rfl ?_
  refine aw_callVT (M' := mX11_pieces) (S := [vI 0, vR 66 0]) (as := [vI a1]) (k := k) dL_pieces_4 rfl (by decide) rfl rfl gh_1120 gh_1121 gh_1122 mb_X11_pieces hk (Nat.le_of_ble_eq_true rfl) rfl (CL.imp cc (fun v h1 k1 => ?_) (fun E h1 k1 => ?_))
  · obtain ⟨r, rfl, k1⟩ := oI_of k1
    show AW _ (d + 1) (1 - k) mL_pieces 7 _ [vI r, vI 0, vR 66 0] h1 _ _
    refine aw_i2l dL_pieces_7 rfl ?_
    refine aw_last dL_pieces_8 rfl (by decide) rfl oa_in01 ?_
    refine aw_goto 15 dL_pieces_9 rfl ?_
    refine aw_iconst (v := 0) dL_pieces_15 rfl (by decide) ?_
    exact aw_iret dL_pieces_16 rfl k1
  · obtain ⟨rfl, k1⟩ := k1
    exact ⟨1, ct_L_pieces_1, k1⟩
theorem mb_L_pieces : oa_MBH mL_pieces 3 := ⟨gh_1119, gh_85, ⟨by decide +kernel, by decide +kernel⟩, by decide +kernel, by decide⟩
theorem dL_usedBy_0 : decode cL_usedBy 0 = .ok (.aload_n 2, 1) := by decide +kernel
theorem dL_usedBy_1 : decode cL_usedBy 1 = .ok (.iconst 0, 1) := by decide +kernel
theorem dL_usedBy_2 : decode cL_usedBy 2 = .ok (.aload_n 0, 1) := by decide +kernel
theorem dL_usedBy_3 : decode cL_usedBy 3 = .ok (.iload_n 1, 1) := by decide +kernel
theorem dL_usedBy_4 : decode cL_usedBy 4 = .ok (.invokevirtual 37, 3) := by decide +kernel
theorem dL_usedBy_7 : decode cL_usedBy 7 = .ok (.i2l, 1) := by decide +kernel
theorem dL_usedBy_8 : decode cL_usedBy 8 = .ok (.lastore, 1) := by decide +kernel
theorem dL_usedBy_9 : decode cL_usedBy 9 = .ok (.goto 6, 3) := by decide +kernel
theorem dL_usedBy_12 : decode cL_usedBy 12 = .ok (.astore_n 3, 1) := by decide +kernel
theorem dL_usedBy_13 : decode cL_usedBy 13 = .ok (.iconst 1, 1) := by decide +kernel
theorem dL_usedBy_14 : decode cL_usedBy 14 = .ok (.ireturn, 1) := by decide +kernel
theorem dL_usedBy_15 : decode cL_usedBy 15 = .ok (.iconst 0, 1) := by decide +kernel
theorem dL_usedBy_16 : decode cL_usedBy 16 = .ok (.ireturn, 1) := by decide +kernel
theorem ct_L_usedBy_1 : oa_ct mL_usedBy 4 "java/lang/IndexOutOfBoundsException" 1 := ⟨[], [], (0, 9, 12, 19), "java/lang/IndexOutOfBoundsException", 3, 13, rfl, (fun _ z => nomatch z), by decide, by decide, gh_1044, (List.mem_of_getElem? (i := 1056) (by decide +kernel)), by decide, Or.inl ⟨3, rfl, dL_usedBy_12, rfl⟩, ⟨1, dL_usedBy_13, by decide⟩, dL_usedBy_14, rfl⟩
theorem ch_L_usedBy {d k : Nat} {h : Hp} {a1 : Int32} {P : Int32 → Hp → Prop} {Qx : String → Hp → Prop} (hk : k ≤ 1) (cc : CL k d mX11_usedBy [vR 11 0, vI a1] h (oI fun r h' => P 0 (hp_l h' 66 0 0 r.toInt64)) (fun E h' => (E = "java/lang/IndexOutOfBoundsException" ∧ P 1 h'))) : CLH 1 (d + 1) mL_usedBy [vR 11 0, vI a1, vR 66 0] h (oI P) Qx := by
  refine CLH.of rfl (Nat.le_of_ble_eq_true rfl) ?_
  refine aw_aload_n (j := 2) (i := 2) dL_usedBy_0 rfl rfl rfl ?_
  refine aw_iconst (v := 0) dL_usedBy_1 rfl (by decide) ?_
  refine aw_aload_n (j := 0) (i := 0) dL_usedBy_2 rfl rfl rfl ?_
  refine aw_iload_n (j := 1) (i := 1) dL_usedBy_3 rfl rfl rfl ?_
  refine aw_callVT (M' := mX11_usedBy) (S := [vI 0, vR 66 0]) (as := [vI a1]) (k := k) dL_usedBy_4 rfl (by decide) rfl rfl gh_1127 gh_1128 gh_1129 mb_X11_usedBy hk (Nat.le_of_ble_eq_true rfl) rfl (CL.imp cc (fun v h1 k1 => ?_) (fun E h1 k1 => ?_))
  · obtain ⟨r, rfl, k1⟩ := oI_of k1
    show AW _ (d + 1) (1 - k) mL_usedBy 7 _ [vI r, vI 0, vR 66 0] h1 _ _
    refine aw_i2l dL_usedBy_7 rfl ?_
    refine aw_last dL_usedBy_8 rfl (by decide) rfl oa_in01 ?_
    refine aw_goto 15 dL_usedBy_9 rfl ?_
    refine aw_iconst (v := 0) dL_usedBy_15 rfl (by decide) ?_
    exact aw_iret dL_usedBy_16 rfl k1
  · obtain ⟨rfl, k1⟩ := k1
    exact ⟨1, ct_L_usedBy_1, k1⟩
theorem mb_L_usedBy : oa_MBH mL_usedBy 3 := ⟨gh_1126, gh_85, ⟨by decide +kernel, by decide +kernel⟩, by decide +kernel, by decide⟩
theorem dL_commonParts_0 : decode cL_commonParts 0 = .ok (.aload_n 3, 1) := by decide +kernel
theorem dL_commonParts_1 : decode cL_commonParts 1 = .ok (.iconst 0, 1) := by decide +kernel
theorem dL_commonParts_2 : decode cL_commonParts 2 = .ok (.aload_n 0, 1) := by decide +kernel
theorem dL_commonParts_3 : decode cL_commonParts 3 = .ok (.iload_n 1, 1) := by decide +kernel
theorem dL_commonParts_4 : decode cL_commonParts 4 = .ok (.iload_n 2, 1) := by decide +kernel
theorem dL_commonParts_5 : decode cL_commonParts 5 = .ok (.invokevirtual 40, 3) := by decide +kernel
theorem dL_commonParts_8 : decode cL_commonParts 8 = .ok (.i2l, 1) := by decide +kernel
theorem dL_commonParts_9 : decode cL_commonParts 9 = .ok (.lastore, 1) := by decide +kernel
theorem dL_commonParts_10 : decode cL_commonParts 10 = .ok (.goto 7, 3) := by decide +kernel
theorem dL_commonParts_13 : decode cL_commonParts 13 = .ok (.astore 4, 2) := by decide +kernel
theorem dL_commonParts_15 : decode cL_commonParts 15 = .ok (.iconst 1, 1) := by decide +kernel
theorem dL_commonParts_16 : decode cL_commonParts 16 = .ok (.ireturn, 1) := by decide +kernel
theorem dL_commonParts_17 : decode cL_commonParts 17 = .ok (.iconst 0, 1) := by decide +kernel
theorem dL_commonParts_18 : decode cL_commonParts 18 = .ok (.ireturn, 1) := by decide +kernel
theorem ct_L_commonParts_1 : oa_ct mL_commonParts 5 "java/lang/IndexOutOfBoundsException" 1 := ⟨[], [], (0, 10, 13, 19), "java/lang/IndexOutOfBoundsException", 4, 15, rfl, (fun _ z => nomatch z), by decide, by decide, gh_1044, (List.mem_of_getElem? (i := 1056) (by decide +kernel)), by decide, Or.inr ⟨dL_commonParts_13, rfl⟩, ⟨1, dL_commonParts_15, by decide⟩, dL_commonParts_16, rfl⟩
theorem ch_L_commonParts {d k : Nat} {h : Hp} {a1 a2 : Int32} {P : Int32 → Hp → Prop} {Qx : String → Hp → Prop} (hk : k ≤ 1) (cc : CL k d mX11_commonParts [vR 11 0, vI a1, vI a2] h (oI fun r h' => P 0 (hp_l h' 66 0 0 r.toInt64)) (fun E h' => (E = "java/lang/IndexOutOfBoundsException" ∧ P 1 h'))) : CLH 1 (d + 1) mL_commonParts [vR 11 0, vI a1, vI a2, vR 66 0] h (oI P) Qx := by
  refine CLH.of rfl (Nat.le_of_ble_eq_true rfl) ?_
  refine aw_aload_n (j := 3) (i := 3) dL_commonParts_0 rfl rfl rfl ?_
  refine aw_iconst (v := 0) dL_commonParts_1 rfl (by decide) ?_
  refine aw_aload_n (j := 0) (i := 0) dL_commonParts_2 rfl rfl rfl ?_
  refine aw_iload_n (j := 1) (i := 1) dL_commonParts_3 rfl rfl rfl ?_
  refine aw_iload_n (j := 2) (i := 2) dL_commonParts_4 rfl rfl rfl ?_
  refine aw_callVT (M' := mX11_commonParts) (S := [vI 0, vR 66 0]) (as := [vI a1, vI a2]) (k := k) dL_commonParts_5 rfl (by decide) rfl rfl gh_1134 gh_1135 gh_1136 mb_X11_commonParts hk (Nat.le_of_ble_eq_true rfl) rfl (CL.imp cc (fun v h1 k1 => ?_) (fun E h1 k1 => ?_))
  · obtain ⟨r, rfl, k1⟩ := oI_of k1
    show AW _ (d + 1) (1 - k) mL_commonParts 8 _ [vI r, vI 0, vR 66 0] h1 _ _
    refine aw_i2l dL_commonParts_8 rfl ?_
    refine aw_last dL_commonParts_9 rfl (by decide) rfl oa_in01 ?_
    refine aw_goto 17 dL_commonParts_10 rfl ?_
    refine aw_iconst (v := 0) dL_commonParts_17 rfl (by decide) ?_
    exact aw_iret dL_commonParts_18 rfl k1
  · obtain ⟨rfl, k1⟩ := k1
    exact ⟨1, ct_L_commonParts_1, k1⟩
theorem mb_L_commonParts : oa_MBH mL_commonParts 4 := ⟨gh_1133, gh_85, ⟨by decide +kernel, by decide +kernel⟩, by decide +kernel, by decide⟩
theorem dL_stock_0 : decode cL_stock 0 = .ok (.aload_n 2, 1) := by decide +kernel
theorem dL_stock_1 : decode cL_stock 1 = .ok (.iconst 0, 1) := by decide +kernel
theorem dL_stock_2 : decode cL_stock 2 = .ok (.aload_n 0, 1) := by decide +kernel
theorem dL_stock_3 : decode cL_stock 3 = .ok (.iload_n 1, 1) := by decide +kernel
theorem dL_stock_4 : decode cL_stock 4 = .ok (.invokevirtual 43, 3) := by decide +kernel
theorem dL_stock_7 : decode cL_stock 7 = .ok (.i2l, 1) := by decide +kernel
theorem dL_stock_8 : decode cL_stock 8 = .ok (.lastore, 1) := by decide +kernel
theorem dL_stock_9 : decode cL_stock 9 = .ok (.goto 6, 3) := by decide +kernel
theorem dL_stock_12 : decode cL_stock 12 = .ok (.astore_n 3, 1) := by decide +kernel
theorem dL_stock_13 : decode cL_stock 13 = .ok (.iconst 1, 1) := by decide +kernel
theorem dL_stock_14 : decode cL_stock 14 = .ok (.ireturn, 1) := by decide +kernel
theorem dL_stock_15 : decode cL_stock 15 = .ok (.iconst 0, 1) := by decide +kernel
theorem dL_stock_16 : decode cL_stock 16 = .ok (.ireturn, 1) := by decide +kernel
theorem ct_L_stock_1 : oa_ct mL_stock 4 "java/lang/IndexOutOfBoundsException" 1 := ⟨[], [], (0, 9, 12, 19), "java/lang/IndexOutOfBoundsException", 3, 13, rfl, (fun _ z => nomatch z), by decide, by decide, gh_1044, (List.mem_of_getElem? (i := 1056) (by decide +kernel)), by decide, Or.inl ⟨3, rfl, dL_stock_12, rfl⟩, ⟨1, dL_stock_13, by decide⟩, dL_stock_14, rfl⟩
theorem ch_L_stock {d k : Nat} {h : Hp} {a1 : Int32} {P : Int32 → Hp → Prop} {Qx : String → Hp → Prop} (hk : k ≤ 1) (cc : CL k d mX11_stock [vR 11 0, vI a1] h (oI fun r h' => P 0 (hp_l h' 66 0 0 r.toInt64)) (fun E h' => (E = "java/lang/IndexOutOfBoundsException" ∧ P 1 h'))) : CLH 1 (d + 1) mL_stock [vR 11 0, vI a1, vR 66 0] h (oI P) Qx := by
  refine CLH.of rfl (Nat.le_of_ble_eq_true rfl) ?_
  refine aw_aload_n (j := 2) (i := 2) dL_stock_0 rfl rfl rfl ?_
  refine aw_iconst (v := 0) dL_stock_1 rfl (by decide) ?_
  refine aw_aload_n (j := 0) (i := 0) dL_stock_2 rfl rfl rfl ?_
  refine aw_iload_n (j := 1) (i := 1) dL_stock_3 rfl rfl rfl ?_
  refine aw_callVT (M' := mX11_stock) (S := [vI 0, vR 66 0]) (as := [vI a1]) (k := k) dL_stock_4 rfl (by decide) rfl rfl gh_1141 gh_1142 gh_1143 mb_X11_stock hk (Nat.le_of_ble_eq_true rfl) rfl (CL.imp cc (fun v h1 k1 => ?_) (fun E h1 k1 => ?_))
  · obtain ⟨r, rfl, k1⟩ := oI_of k1
    show AW _ (d + 1) (1 - k) mL_stock 7 _ [vI r, vI 0, vR 66 0] h1 _ _
    refine aw_i2l dL_stock_7 rfl ?_
    refine aw_last dL_stock_8 rfl (by decide) rfl oa_in01 ?_
    refine aw_goto 15 dL_stock_9 rfl ?_
    refine aw_iconst (v := 0) dL_stock_15 rfl (by decide) ?_
    exact aw_iret dL_stock_16 rfl k1
  · obtain ⟨rfl, k1⟩ := k1
    exact ⟨1, ct_L_stock_1, k1⟩
theorem mb_L_stock : oa_MBH mL_stock 3 := ⟨gh_1140, gh_85, ⟨by decide +kernel, by decide +kernel⟩, by decide +kernel, by decide⟩
theorem dL_reserved_0 : decode cL_reserved 0 = .ok (.aload_n 2, 1) := by decide +kernel
theorem dL_reserved_1 : decode cL_reserved 1 = .ok (.iconst 0, 1) := by decide +kernel
theorem dL_reserved_2 : decode cL_reserved 2 = .ok (.aload_n 0, 1) := by decide +kernel
theorem dL_reserved_3 : decode cL_reserved 3 = .ok (.iload_n 1, 1) := by decide +kernel
theorem dL_reserved_4 : decode cL_reserved 4 = .ok (.invokevirtual 46, 3) := by decide +kernel
theorem dL_reserved_7 : decode cL_reserved 7 = .ok (.i2l, 1) := by decide +kernel
theorem dL_reserved_8 : decode cL_reserved 8 = .ok (.lastore, 1) := by decide +kernel
theorem dL_reserved_9 : decode cL_reserved 9 = .ok (.goto 6, 3) := by decide +kernel
theorem dL_reserved_12 : decode cL_reserved 12 = .ok (.astore_n 3, 1) := by decide +kernel
theorem dL_reserved_13 : decode cL_reserved 13 = .ok (.iconst 1, 1) := by decide +kernel
theorem dL_reserved_14 : decode cL_reserved 14 = .ok (.ireturn, 1) := by decide +kernel
theorem dL_reserved_15 : decode cL_reserved 15 = .ok (.iconst 0, 1) := by decide +kernel
theorem dL_reserved_16 : decode cL_reserved 16 = .ok (.ireturn, 1) := by decide +kernel
theorem ct_L_reserved_1 : oa_ct mL_reserved 4 "java/lang/IndexOutOfBoundsException" 1 := ⟨[], [], (0, 9, 12, 19), "java/lang/IndexOutOfBoundsException", 3, 13, rfl, (fun _ z => nomatch z), by decide, by decide, gh_1044, (List.mem_of_getElem? (i := 1056) (by decide +kernel)), by decide, Or.inl ⟨3, rfl, dL_reserved_12, rfl⟩, ⟨1, dL_reserved_13, by decide⟩, dL_reserved_14, rfl⟩
theorem ch_L_reserved {d k : Nat} {h : Hp} {a1 : Int32} {P : Int32 → Hp → Prop} {Qx : String → Hp → Prop} (hk : k ≤ 1) (cc : CL k d mX11_reserved [vR 11 0, vI a1] h (oI fun r h' => P 0 (hp_l h' 66 0 0 r.toInt64)) (fun E h' => (E = "java/lang/IndexOutOfBoundsException" ∧ P 1 h'))) : CLH 1 (d + 1) mL_reserved [vR 11 0, vI a1, vR 66 0] h (oI P) Qx := by
  refine CLH.of rfl (Nat.le_of_ble_eq_true rfl) ?_
  refine aw_aload_n (j := 2) (i := 2) dL_reserved_0 rfl rfl rfl ?_
  refine aw_iconst (v := 0) dL_reserved_1 rfl (by decide) ?_
  refine aw_aload_n (j := 0) (i := 0) dL_reserved_2 rfl rfl rfl ?_
  refine aw_iload_n (j := 1) (i := 1) dL_reserved_3 rfl rfl rfl ?_
  refine aw_callVT (M' := mX11_reserved) (S := [vI 0, vR 66 0]) (as := [vI a1]) (k := k) dL_reserved_4 rfl (by decide) rfl rfl gh_1149 gh_1150 gh_1151 mb_X11_reserved hk (Nat.le_of_ble_eq_true rfl) rfl (CL.imp cc (fun v h1 k1 => ?_) (fun E h1 k1 => ?_))
  · obtain ⟨r, rfl, k1⟩ := oI_of k1
    show AW _ (d + 1) (1 - k) mL_reserved 7 _ [vI r, vI 0, vR 66 0] h1 _ _
    refine aw_i2l dL_reserved_7 rfl ?_
    refine aw_last dL_reserved_8 rfl (by decide) rfl oa_in01 ?_
    refine aw_goto 15 dL_reserved_9 rfl ?_
    refine aw_iconst (v := 0) dL_reserved_15 rfl (by decide) ?_
    exact aw_iret dL_reserved_16 rfl k1
  · obtain ⟨rfl, k1⟩ := k1
    exact ⟨1, ct_L_reserved_1, k1⟩
theorem mb_L_reserved : oa_MBH mL_reserved 3 := ⟨gh_1148, gh_85, ⟨by decide +kernel, by decide +kernel⟩, by decide +kernel, by decide⟩
theorem dL_arriving_0 : decode cL_arriving 0 = .ok (.aload_n 2, 1) := by decide +kernel
theorem dL_arriving_1 : decode cL_arriving 1 = .ok (.iconst 0, 1) := by decide +kernel
theorem dL_arriving_2 : decode cL_arriving 2 = .ok (.aload_n 0, 1) := by decide +kernel
theorem dL_arriving_3 : decode cL_arriving 3 = .ok (.iload_n 1, 1) := by decide +kernel
theorem dL_arriving_4 : decode cL_arriving 4 = .ok (.invokevirtual 49, 3) := by decide +kernel
theorem dL_arriving_7 : decode cL_arriving 7 = .ok (.i2l, 1) := by decide +kernel
theorem dL_arriving_8 : decode cL_arriving 8 = .ok (.lastore, 1) := by decide +kernel
theorem dL_arriving_9 : decode cL_arriving 9 = .ok (.goto 6, 3) := by decide +kernel
theorem dL_arriving_12 : decode cL_arriving 12 = .ok (.astore_n 3, 1) := by decide +kernel
theorem dL_arriving_13 : decode cL_arriving 13 = .ok (.iconst 1, 1) := by decide +kernel
theorem dL_arriving_14 : decode cL_arriving 14 = .ok (.ireturn, 1) := by decide +kernel
theorem dL_arriving_15 : decode cL_arriving 15 = .ok (.iconst 0, 1) := by decide +kernel
theorem dL_arriving_16 : decode cL_arriving 16 = .ok (.ireturn, 1) := by decide +kernel
theorem ct_L_arriving_1 : oa_ct mL_arriving 4 "java/lang/IndexOutOfBoundsException" 1 := ⟨[], [], (0, 9, 12, 19), "java/lang/IndexOutOfBoundsException", 3, 13, rfl, (fun _ z => nomatch z), by decide, by decide, gh_1044, (List.mem_of_getElem? (i := 1056) (by decide +kernel)), by decide, Or.inl ⟨3, rfl, dL_arriving_12, rfl⟩, ⟨1, dL_arriving_13, by decide⟩, dL_arriving_14, rfl⟩
theorem ch_L_arriving {d k : Nat} {h : Hp} {a1 : Int32} {P : Int32 → Hp → Prop} {Qx : String → Hp → Prop} (hk : k ≤ 1) (cc : CL k d mX11_arriving [vR 11 0, vI a1] h (oI fun r h' => P 0 (hp_l h' 66 0 0 r.toInt64)) (fun E h' => (E = "java/lang/IndexOutOfBoundsException" ∧ P 1 h'))) : CLH 1 (d + 1) mL_arriving [vR 11 0, vI a1, vR 66 0] h (oI P) Qx := by
  refine CLH.of rfl (Nat.le_of_ble_eq_true rfl) ?_
  refine aw_aload_n (j := 2) (i := 2) dL_arriving_0 rfl rfl rfl ?_
  refine aw_iconst (v := 0) dL_arriving_1 rfl (by decide) ?_
  refine aw_aload_n (j := 0) (i := 0) dL_arriving_2 rfl rfl rfl ?_
  refine aw_iload_n (j := 1) (i := 1) dL_arriving_3 rfl rfl rfl ?_
  refine aw_callVT (M' := mX11_arriving) (S := [vI 0, vR 66 0]) (as := [vI a1]) (k := k) dL_arriving_4 rfl (by decide) rfl rfl gh_1157 gh_1158 gh_1159 mb_X11_arriving hk (Nat.le_of_ble_eq_true rfl) rfl (CL.imp cc (fun v h1 k1 => ?_) (fun E h1 k1 => ?_))
  · obtain ⟨r, rfl, k1⟩ := oI_of k1
    show AW _ (d + 1) (1 - k) mL_arriving 7 _ [vI r, vI 0, vR 66 0] h1 _ _
    refine aw_i2l dL_arriving_7 rfl ?_
    refine aw_last dL_arriving_8 rfl (by decide) rfl oa_in01 ?_
    refine aw_goto 15 dL_arriving_9 rfl ?_
    refine aw_iconst (v := 0) dL_arriving_15 rfl (by decide) ?_
    exact aw_iret dL_arriving_16 rfl k1
  · obtain ⟨rfl, k1⟩ := k1
    exact ⟨1, ct_L_arriving_1, k1⟩
theorem mb_L_arriving : oa_MBH mL_arriving 3 := ⟨gh_1156, gh_85, ⟨by decide +kernel, by decide +kernel⟩, by decide +kernel, by decide⟩
theorem dL_nextArrival_0 : decode cL_nextArrival 0 = .ok (.aload_n 2, 1) := by decide +kernel
theorem dL_nextArrival_1 : decode cL_nextArrival 1 = .ok (.iconst 0, 1) := by decide +kernel
theorem dL_nextArrival_2 : decode cL_nextArrival 2 = .ok (.aload_n 0, 1) := by decide +kernel
theorem dL_nextArrival_3 : decode cL_nextArrival 3 = .ok (.iload_n 1, 1) := by decide +kernel
theorem dL_nextArrival_4 : decode cL_nextArrival 4 = .ok (.invokevirtual 52, 3) := by decide +kernel
theorem dL_nextArrival_7 : decode cL_nextArrival 7 = .ok (.i2l, 1) := by decide +kernel
theorem dL_nextArrival_8 : decode cL_nextArrival 8 = .ok (.lastore, 1) := by decide +kernel
theorem dL_nextArrival_9 : decode cL_nextArrival 9 = .ok (.goto 6, 3) := by decide +kernel
theorem dL_nextArrival_12 : decode cL_nextArrival 12 = .ok (.astore_n 3, 1) := by decide +kernel
theorem dL_nextArrival_13 : decode cL_nextArrival 13 = .ok (.iconst 1, 1) := by decide +kernel
theorem dL_nextArrival_14 : decode cL_nextArrival 14 = .ok (.ireturn, 1) := by decide +kernel
theorem dL_nextArrival_15 : decode cL_nextArrival 15 = .ok (.iconst 0, 1) := by decide +kernel
theorem dL_nextArrival_16 : decode cL_nextArrival 16 = .ok (.ireturn, 1) := by decide +kernel
theorem ct_L_nextArrival_1 : oa_ct mL_nextArrival 4 "java/lang/IndexOutOfBoundsException" 1 := ⟨[], [], (0, 9, 12, 19), "java/lang/IndexOutOfBoundsException", 3, 13, rfl, (fun _ z => nomatch z), by decide, by decide, gh_1044, (List.mem_of_getElem? (i := 1056) (by decide +kernel)), by decide, Or.inl ⟨3, rfl, dL_nextArrival_12, rfl⟩, ⟨1, dL_nextArrival_13, by decide⟩, dL_nextArrival_14, rfl⟩
theorem ch_L_nextArrival {d k : Nat} {h : Hp} {a1 : Int32} {P : Int32 → Hp → Prop} {Qx : String → Hp → Prop} (hk : k ≤ 1) (cc : CL k d mX11_nextArrival [vR 11 0, vI a1] h (oI fun r h' => P 0 (hp_l h' 66 0 0 r.toInt64)) (fun E h' => (E = "java/lang/IndexOutOfBoundsException" ∧ P 1 h'))) : CLH 1 (d + 1) mL_nextArrival [vR 11 0, vI a1, vR 66 0] h (oI P) Qx := by
  refine CLH.of rfl (Nat.le_of_ble_eq_true rfl) ?_
  refine aw_aload_n (j := 2) (i := 2) dL_nextArrival_0 rfl rfl rfl ?_
  refine aw_iconst (v := 0) dL_nextArrival_1 rfl (by decide) ?_
  refine aw_aload_n (j := 0) (i := 0) dL_nextArrival_2 rfl rfl rfl ?_
  refine aw_iload_n (j := 1) (i := 1) dL_nextArrival_3 rfl rfl rfl ?_
  refine aw_callVT (M' := mX11_nextArrival) (S := [vI 0, vR 66 0]) (as := [vI a1]) (k := k) dL_nextArrival_4 rfl (by decide) rfl rfl gh_1164 gh_1165 gh_1166 mb_X11_nextArrival hk (Nat.le_of_ble_eq_true rfl) rfl (CL.imp cc (fun v h1 k1 => ?_) (fun E h1 k1 => ?_))
  · obtain ⟨r, rfl, k1⟩ := oI_of k1
    show AW _ (d + 1) (1 - k) mL_nextArrival 7 _ [vI r, vI 0, vR 66 0] h1 _ _
    refine aw_i2l dL_nextArrival_7 rfl ?_
    refine aw_last dL_nextArrival_8 rfl (by decide) rfl oa_in01 ?_
    refine aw_goto 15 dL_nextArrival_9 rfl ?_
    refine aw_iconst (v := 0) dL_nextArrival_15 rfl (by decide) ?_
    exact aw_iret dL_nextArrival_16 rfl k1
  · obtain ⟨rfl, k1⟩ := k1
    exact ⟨1, ct_L_nextArrival_1, k1⟩
theorem mb_L_nextArrival : oa_MBH mL_nextArrival 3 := ⟨gh_1163, gh_85, ⟨by decide +kernel, by decide +kernel⟩, by decide +kernel, by decide⟩
theorem dL_buildable_0 : decode cL_buildable 0 = .ok (.aload_n 2, 1) := by decide +kernel
theorem dL_buildable_1 : decode cL_buildable 1 = .ok (.iconst 0, 1) := by decide +kernel
theorem dL_buildable_2 : decode cL_buildable 2 = .ok (.aload_n 0, 1) := by decide +kernel
theorem dL_buildable_3 : decode cL_buildable 3 = .ok (.iload_n 1, 1) := by decide +kernel
theorem dL_buildable_4 : decode cL_buildable 4 = .ok (.invokevirtual 55, 3) := by decide +kernel
theorem dL_buildable_7 : decode cL_buildable 7 = .ok (.i2l, 1) := by decide +kernel
theorem dL_buildable_8 : decode cL_buildable 8 = .ok (.lastore, 1) := by decide +kernel
theorem dL_buildable_9 : decode cL_buildable 9 = .ok (.goto 6, 3) := by decide +kernel
theorem dL_buildable_12 : decode cL_buildable 12 = .ok (.astore_n 3, 1) := by decide +kernel
theorem dL_buildable_13 : decode cL_buildable 13 = .ok (.iconst 1, 1) := by decide +kernel
theorem dL_buildable_14 : decode cL_buildable 14 = .ok (.ireturn, 1) := by decide +kernel
theorem dL_buildable_15 : decode cL_buildable 15 = .ok (.iconst 0, 1) := by decide +kernel
theorem dL_buildable_16 : decode cL_buildable 16 = .ok (.ireturn, 1) := by decide +kernel
theorem ct_L_buildable_1 : oa_ct mL_buildable 4 "java/lang/IndexOutOfBoundsException" 1 := ⟨[], [], (0, 9, 12, 19), "java/lang/IndexOutOfBoundsException", 3, 13, rfl, (fun _ z => nomatch z), by decide, by decide, gh_1044, (List.mem_of_getElem? (i := 1056) (by decide +kernel)), by decide, Or.inl ⟨3, rfl, dL_buildable_12, rfl⟩, ⟨1, dL_buildable_13, by decide⟩, dL_buildable_14, rfl⟩
theorem ch_L_buildable {d k : Nat} {h : Hp} {a1 : Int32} {P : Int32 → Hp → Prop} {Qx : String → Hp → Prop} (hk : k ≤ 1) (cc : CL k d mX11_buildable [vR 11 0, vI a1] h (oI fun r h' => P 0 (hp_l h' 66 0 0 r.toInt64)) (fun E h' => (E = "java/lang/IndexOutOfBoundsException" ∧ P 1 h'))) : CLH 1 (d + 1) mL_buildable [vR 11 0, vI a1, vR 66 0] h (oI P) Qx := by
  refine CLH.of rfl (Nat.le_of_ble_eq_true rfl) ?_
  refine aw_aload_n (j := 2) (i := 2) dL_buildable_0 rfl rfl rfl ?_
  refine aw_iconst (v := 0) dL_buildable_1 rfl (by decide) ?_
  refine aw_aload_n (j := 0) (i := 0) dL_buildable_2 rfl rfl rfl ?_
  refine aw_iload_n (j := 1) (i := 1) dL_buildable_3 rfl rfl rfl ?_
  refine aw_callVT (M' := mX11_buildable) (S := [vI 0, vR 66 0]) (as := [vI a1]) (k := k) dL_buildable_4 rfl (by decide) rfl rfl gh_1175 gh_1176 gh_1177 mb_X11_buildable hk (Nat.le_of_ble_eq_true rfl) rfl (CL.imp cc (fun v h1 k1 => ?_) (fun E h1 k1 => ?_))
  · obtain ⟨r, rfl, k1⟩ := oI_of k1
    show AW _ (d + 1) (1 - k) mL_buildable 7 _ [vI r, vI 0, vR 66 0] h1 _ _
    refine aw_i2l dL_buildable_7 rfl ?_
    refine aw_last dL_buildable_8 rfl (by decide) rfl oa_in01 ?_
    refine aw_goto 15 dL_buildable_9 rfl ?_
    refine aw_iconst (v := 0) dL_buildable_15 rfl (by decide) ?_
    exact aw_iret dL_buildable_16 rfl k1
  · obtain ⟨rfl, k1⟩ := k1
    exact ⟨1, ct_L_buildable_1, k1⟩
theorem mb_L_buildable : oa_MBH mL_buildable 3 := ⟨gh_1174, gh_85, ⟨by decide +kernel, by decide +kernel⟩, by decide +kernel, by decide⟩
theorem dL_bottleneck_0 : decode cL_bottleneck 0 = .ok (.aload_n 2, 1) := by decide +kernel
theorem dL_bottleneck_1 : decode cL_bottleneck 1 = .ok (.iconst 0, 1) := by decide +kernel
theorem dL_bottleneck_2 : decode cL_bottleneck 2 = .ok (.aload_n 0, 1) := by decide +kernel
theorem dL_bottleneck_3 : decode cL_bottleneck 3 = .ok (.iload_n 1, 1) := by decide +kernel
theorem dL_bottleneck_4 : decode cL_bottleneck 4 = .ok (.invokevirtual 58, 3) := by decide +kernel
theorem dL_bottleneck_7 : decode cL_bottleneck 7 = .ok (.i2l, 1) := by decide +kernel
theorem dL_bottleneck_8 : decode cL_bottleneck 8 = .ok (.lastore, 1) := by decide +kernel
theorem dL_bottleneck_9 : decode cL_bottleneck 9 = .ok (.goto 6, 3) := by decide +kernel
theorem dL_bottleneck_12 : decode cL_bottleneck 12 = .ok (.astore_n 3, 1) := by decide +kernel
theorem dL_bottleneck_13 : decode cL_bottleneck 13 = .ok (.iconst 1, 1) := by decide +kernel
theorem dL_bottleneck_14 : decode cL_bottleneck 14 = .ok (.ireturn, 1) := by decide +kernel
theorem dL_bottleneck_15 : decode cL_bottleneck 15 = .ok (.iconst 0, 1) := by decide +kernel
theorem dL_bottleneck_16 : decode cL_bottleneck 16 = .ok (.ireturn, 1) := by decide +kernel
theorem ct_L_bottleneck_1 : oa_ct mL_bottleneck 4 "java/lang/IndexOutOfBoundsException" 1 := ⟨[], [], (0, 9, 12, 19), "java/lang/IndexOutOfBoundsException", 3, 13, rfl, (fun _ z => nomatch z), by decide, by decide, gh_1044, (List.mem_of_getElem? (i := 1056) (by decide +kernel)), by decide, Or.inl ⟨3, rfl, dL_bottleneck_12, rfl⟩, ⟨1, dL_bottleneck_13, by decide⟩, dL_bottleneck_14, rfl⟩
theorem ch_L_bottleneck {d k : Nat} {h : Hp} {a1 : Int32} {P : Int32 → Hp → Prop} {Qx : String → Hp → Prop} (hk : k ≤ 1) (cc : CL k d mX11_bottleneck [vR 11 0, vI a1] h (oI fun r h' => P 0 (hp_l h' 66 0 0 r.toInt64)) (fun E h' => (E = "java/lang/IndexOutOfBoundsException" ∧ P 1 h'))) : CLH 1 (d + 1) mL_bottleneck [vR 11 0, vI a1, vR 66 0] h (oI P) Qx := by
  refine CLH.of rfl (Nat.le_of_ble_eq_true rfl) ?_
  refine aw_aload_n (j := 2) (i := 2) dL_bottleneck_0 rfl rfl rfl ?_
  refine aw_iconst (v := 0) dL_bottleneck_1 rfl (by decide) ?_
  refine aw_aload_n (j := 0) (i := 0) dL_bottleneck_2 rfl rfl rfl ?_
  refine aw_iload_n (j := 1) (i := 1) dL_bottleneck_3 rfl rfl rfl ?_
  refine aw_callVT (M' := mX11_bottleneck) (S := [vI 0, vR 66 0]) (as := [vI a1]) (k := k) dL_bottleneck_4 rfl (by decide) rfl rfl gh_1184 gh_1185 gh_1186 mb_X11_bottleneck hk (Nat.le_of_ble_eq_true rfl) rfl (CL.imp cc (fun v h1 k1 => ?_) (fun E h1 k1 => ?_))
  · obtain ⟨r, rfl, k1⟩ := oI_of k1
    show AW _ (d + 1) (1 - k) mL_bottleneck 7 _ [vI r, vI 0, vR 66 0] h1 _ _
    refine aw_i2l dL_bottleneck_7 rfl ?_
    refine aw_last dL_bottleneck_8 rfl (by decide) rfl oa_in01 ?_
    refine aw_goto 15 dL_bottleneck_9 rfl ?_
    refine aw_iconst (v := 0) dL_bottleneck_15 rfl (by decide) ?_
    exact aw_iret dL_bottleneck_16 rfl k1
  · obtain ⟨rfl, k1⟩ := k1
    exact ⟨1, ct_L_bottleneck_1, k1⟩
theorem mb_L_bottleneck : oa_MBH mL_bottleneck 3 := ⟨gh_1183, gh_85, ⟨by decide +kernel, by decide +kernel⟩, by decide +kernel, by decide⟩
theorem dL_buildableTogether_0 : decode cL_buildableTogether 0 = .ok (.aload_n 3, 1) := by decide +kernel
theorem dL_buildableTogether_1 : decode cL_buildableTogether 1 = .ok (.iconst 0, 1) := by decide +kernel
theorem dL_buildableTogether_2 : decode cL_buildableTogether 2 = .ok (.aload_n 0, 1) := by decide +kernel
theorem dL_buildableTogether_3 : decode cL_buildableTogether 3 = .ok (.iload_n 1, 1) := by decide +kernel
theorem dL_buildableTogether_4 : decode cL_buildableTogether 4 = .ok (.iload_n 2, 1) := by decide +kernel
theorem dL_buildableTogether_5 : decode cL_buildableTogether 5 = .ok (.invokevirtual 61, 3) := by decide +kernel
theorem dL_buildableTogether_8 : decode cL_buildableTogether 8 = .ok (.i2l, 1) := by decide +kernel
theorem dL_buildableTogether_9 : decode cL_buildableTogether 9 = .ok (.lastore, 1) := by decide +kernel
theorem dL_buildableTogether_10 : decode cL_buildableTogether 10 = .ok (.goto 11, 3) := by decide +kernel
theorem dL_buildableTogether_13 : decode cL_buildableTogether 13 = .ok (.astore 4, 2) := by decide +kernel
theorem dL_buildableTogether_15 : decode cL_buildableTogether 15 = .ok (.iconst 1, 1) := by decide +kernel
theorem dL_buildableTogether_16 : decode cL_buildableTogether 16 = .ok (.ireturn, 1) := by decide +kernel
theorem dL_buildableTogether_17 : decode cL_buildableTogether 17 = .ok (.astore 4, 2) := by decide +kernel
theorem dL_buildableTogether_19 : decode cL_buildableTogether 19 = .ok (.iconst 2, 1) := by decide +kernel
theorem dL_buildableTogether_20 : decode cL_buildableTogether 20 = .ok (.ireturn, 1) := by decide +kernel
theorem dL_buildableTogether_21 : decode cL_buildableTogether 21 = .ok (.iconst 0, 1) := by decide +kernel
theorem dL_buildableTogether_22 : decode cL_buildableTogether 22 = .ok (.ireturn, 1) := by decide +kernel
theorem ct_L_buildableTogether_1 : oa_ct mL_buildableTogether 5 "java/lang/IndexOutOfBoundsException" 1 := ⟨[], [(0, 10, 17, 13)], (0, 10, 13, 19), "java/lang/IndexOutOfBoundsException", 4, 15, rfl, (fun _ z => nomatch z), by decide, by decide, gh_1044, (List.mem_of_getElem? (i := 1056) (by decide +kernel)), by decide, Or.inr ⟨dL_buildableTogether_13, rfl⟩, ⟨1, dL_buildableTogether_15, by decide⟩, dL_buildableTogether_16, rfl⟩
theorem ct_L_buildableTogether_2 : oa_ct mL_buildableTogether 5 "java/lang/IllegalArgumentException" 2 := ⟨[(0, 10, 13, 19)], [], (0, 10, 17, 13), "java/lang/IllegalArgumentException", 4, 19, rfl, (List.forall_mem_cons.mpr ⟨⟨by decide, "java/lang/IndexOutOfBoundsException", gh_1044, List.mem_of_getElem? (i := 0) rfl⟩, (fun _ z => nomatch z)⟩), by decide, by decide, gh_738, (List.mem_of_getElem? (i := 964) (by decide +kernel)), by decide, Or.inr ⟨dL_buildableTogether_17, rfl⟩, ⟨2, dL_buildableTogether_19, by decide⟩, dL_buildableTogether_20, rfl⟩
theorem ch_L_buildableTogether {d k : Nat} {h : Hp} {a1 a2 : Int32} {P : Int32 → Hp → Prop} {Qx : String → Hp → Prop} (hk : k ≤ 1) (cc : CL k d mX11_buildableTogether [vR 11 0, vI a1, vI a2] h (oI fun r h' => P 0 (hp_l h' 66 0 0 r.toInt64)) (fun E h' => (E = "java/lang/IndexOutOfBoundsException" ∧ P 1 h') ∨ (E = "java/lang/IllegalArgumentException" ∧ P 2 h'))) : CLH 1 (d + 1) mL_buildableTogether [vR 11 0, vI a1, vI a2, vR 66 0] h (oI P) Qx := by
  refine CLH.of rfl (Nat.le_of_ble_eq_true rfl) ?_
  refine aw_aload_n (j := 3) (i := 3) dL_buildableTogether_0 rfl rfl rfl ?_
  refine aw_iconst (v := 0) dL_buildableTogether_1 rfl (by decide) ?_
  refine aw_aload_n (j := 0) (i := 0) dL_buildableTogether_2 rfl rfl rfl ?_
  refine aw_iload_n (j := 1) (i := 1) dL_buildableTogether_3 rfl rfl rfl ?_
  refine aw_iload_n (j := 2) (i := 2) dL_buildableTogether_4 rfl rfl rfl ?_
  refine aw_callVT (M' := mX11_buildableTogether) (S := [vI 0, vR 66 0]) (as := [vI a1, vI a2]) (k := k) dL_buildableTogether_5 rfl (by decide) rfl rfl gh_1192 gh_1193 gh_1194 mb_X11_buildableTogether hk (Nat.le_of_ble_eq_true rfl) rfl (CL.imp cc (fun v h1 k1 => ?_) (fun E h1 k1 => ?_))
  · obtain ⟨r, rfl, k1⟩ := oI_of k1
    show AW _ (d + 1) (1 - k) mL_buildableTogether 8 _ [vI r, vI 0, vR 66 0] h1 _ _
    refine aw_i2l dL_buildableTogether_8 rfl ?_
    refine aw_last dL_buildableTogether_9 rfl (by decide) rfl oa_in01 ?_
    refine aw_goto 21 dL_buildableTogether_10 rfl ?_
    refine aw_iconst (v := 0) dL_buildableTogether_21 rfl (by decide) ?_
    exact aw_iret dL_buildableTogether_22 rfl k1
  · rcases k1 with ⟨rfl, k1⟩ | ⟨rfl, k1⟩
    · exact ⟨1, ct_L_buildableTogether_1, k1⟩
    · exact ⟨2, ct_L_buildableTogether_2, k1⟩
theorem mb_L_buildableTogether : oa_MBH mL_buildableTogether 4 := ⟨gh_1191, gh_85, ⟨by decide +kernel, by decide +kernel⟩, by decide +kernel, by decide⟩
theorem dL_stateOf_0 : decode cL_stateOf 0 = .ok (.aload_n 2, 1) := by decide +kernel
theorem dL_stateOf_1 : decode cL_stateOf 1 = .ok (.iconst 0, 1) := by decide +kernel
theorem dL_stateOf_2 : decode cL_stateOf 2 = .ok (.aload_n 0, 1) := by decide +kernel
theorem dL_stateOf_3 : decode cL_stateOf 3 = .ok (.iload_n 1, 1) := by decide +kernel
theorem dL_stateOf_4 : decode cL_stateOf 4 = .ok (.invokevirtual 64, 3) := by decide +kernel
theorem dL_stateOf_7 : decode cL_stateOf 7 = .ok (.i2l, 1) := by decide +kernel
theorem dL_stateOf_8 : decode cL_stateOf 8 = .ok (.lastore, 1) := by decide +kernel
theorem dL_stateOf_9 : decode cL_stateOf 9 = .ok (.goto 6, 3) := by decide +kernel
theorem dL_stateOf_12 : decode cL_stateOf 12 = .ok (.astore_n 3, 1) := by decide +kernel
theorem dL_stateOf_13 : decode cL_stateOf 13 = .ok (.iconst 1, 1) := by decide +kernel
theorem dL_stateOf_14 : decode cL_stateOf 14 = .ok (.ireturn, 1) := by decide +kernel
theorem dL_stateOf_15 : decode cL_stateOf 15 = .ok (.iconst 0, 1) := by decide +kernel
theorem dL_stateOf_16 : decode cL_stateOf 16 = .ok (.ireturn, 1) := by decide +kernel
theorem ct_L_stateOf_1 : oa_ct mL_stateOf 4 "java/lang/IndexOutOfBoundsException" 1 := ⟨[], [], (0, 9, 12, 19), "java/lang/IndexOutOfBoundsException", 3, 13, rfl, (fun _ z => nomatch z), by decide, by decide, gh_1044, (List.mem_of_getElem? (i := 1056) (by decide +kernel)), by decide, Or.inl ⟨3, rfl, dL_stateOf_12, rfl⟩, ⟨1, dL_stateOf_13, by decide⟩, dL_stateOf_14, rfl⟩
theorem ch_L_stateOf {d k : Nat} {h : Hp} {a1 : Int32} {P : Int32 → Hp → Prop} {Qx : String → Hp → Prop} (hk : k ≤ 1) (cc : CL k d mX11_stateOf [vR 11 0, vI a1] h (oI fun r h' => P 0 (hp_l h' 66 0 0 r.toInt64)) (fun E h' => (E = "java/lang/IndexOutOfBoundsException" ∧ P 1 h'))) : CLH 1 (d + 1) mL_stateOf [vR 11 0, vI a1, vR 66 0] h (oI P) Qx := by
  refine CLH.of rfl (Nat.le_of_ble_eq_true rfl) ?_
  refine aw_aload_n (j := 2) (i := 2) dL_stateOf_0 rfl rfl rfl ?_
  refine aw_iconst (v := 0) dL_stateOf_1 rfl (by decide) ?_
  refine aw_aload_n (j := 0) (i := 0) dL_stateOf_2 rfl rfl rfl ?_
  refine aw_iload_n (j := 1) (i := 1) dL_stateOf_3 rfl rfl rfl ?_
  refine aw_callVT (M' := mX11_stateOf) (S := [vI 0, vR 66 0]) (as := [vI a1]) (k := k) dL_stateOf_4 rfl (by decide) rfl rfl gh_1220 gh_1221 gh_1222 mb_X11_stateOf hk (Nat.le_of_ble_eq_true rfl) rfl (CL.imp cc (fun v h1 k1 => ?_) (fun E h1 k1 => ?_))
  · obtain ⟨r, rfl, k1⟩ := oI_of k1
    show AW _ (d + 1) (1 - k) mL_stateOf 7 _ [vI r, vI 0, vR 66 0] h1 _ _
    refine aw_i2l dL_stateOf_7 rfl ?_
    refine aw_last dL_stateOf_8 rfl (by decide) rfl oa_in01 ?_
    refine aw_goto 15 dL_stateOf_9 rfl ?_
    refine aw_iconst (v := 0) dL_stateOf_15 rfl (by decide) ?_
    exact aw_iret dL_stateOf_16 rfl k1
  · obtain ⟨rfl, k1⟩ := k1
    exact ⟨1, ct_L_stateOf_1, k1⟩
theorem mb_L_stateOf : oa_MBH mL_stateOf 3 := ⟨gh_1219, gh_85, ⟨by decide +kernel, by decide +kernel⟩, by decide +kernel, by decide⟩
theorem dL_openUnits_0 : decode cL_openUnits 0 = .ok (.aload_n 2, 1) := by decide +kernel
theorem dL_openUnits_1 : decode cL_openUnits 1 = .ok (.iconst 0, 1) := by decide +kernel
theorem dL_openUnits_2 : decode cL_openUnits 2 = .ok (.aload_n 0, 1) := by decide +kernel
theorem dL_openUnits_3 : decode cL_openUnits 3 = .ok (.iload_n 1, 1) := by decide +kernel
theorem dL_openUnits_4 : decode cL_openUnits 4 = .ok (.invokevirtual 67, 3) := by decide +kernel
theorem dL_openUnits_7 : decode cL_openUnits 7 = .ok (.i2l, 1) := by decide +kernel
theorem dL_openUnits_8 : decode cL_openUnits 8 = .ok (.lastore, 1) := by decide +kernel
theorem dL_openUnits_9 : decode cL_openUnits 9 = .ok (.goto 6, 3) := by decide +kernel
theorem dL_openUnits_12 : decode cL_openUnits 12 = .ok (.astore_n 3, 1) := by decide +kernel
theorem dL_openUnits_13 : decode cL_openUnits 13 = .ok (.iconst 1, 1) := by decide +kernel
theorem dL_openUnits_14 : decode cL_openUnits 14 = .ok (.ireturn, 1) := by decide +kernel
theorem dL_openUnits_15 : decode cL_openUnits 15 = .ok (.iconst 0, 1) := by decide +kernel
theorem dL_openUnits_16 : decode cL_openUnits 16 = .ok (.ireturn, 1) := by decide +kernel
theorem ct_L_openUnits_1 : oa_ct mL_openUnits 4 "java/lang/IndexOutOfBoundsException" 1 := ⟨[], [], (0, 9, 12, 19), "java/lang/IndexOutOfBoundsException", 3, 13, rfl, (fun _ z => nomatch z), by decide, by decide, gh_1044, (List.mem_of_getElem? (i := 1056) (by decide +kernel)), by decide, Or.inl ⟨3, rfl, dL_openUnits_12, rfl⟩, ⟨1, dL_openUnits_13, by decide⟩, dL_openUnits_14, rfl⟩
theorem ch_L_openUnits {d k : Nat} {h : Hp} {a1 : Int32} {P : Int32 → Hp → Prop} {Qx : String → Hp → Prop} (hk : k ≤ 1) (cc : CL k d mX11_openUnits [vR 11 0, vI a1] h (oI fun r h' => P 0 (hp_l h' 66 0 0 r.toInt64)) (fun E h' => (E = "java/lang/IndexOutOfBoundsException" ∧ P 1 h'))) : CLH 1 (d + 1) mL_openUnits [vR 11 0, vI a1, vR 66 0] h (oI P) Qx := by
  refine CLH.of rfl (Nat.le_of_ble_eq_true rfl) ?_
  refine aw_aload_n (j := 2) (i := 2) dL_openUnits_0 rfl rfl rfl ?_
  refine aw_iconst (v := 0) dL_openUnits_1 rfl (by decide) ?_
  refine aw_aload_n (j := 0) (i := 0) dL_openUnits_2 rfl rfl rfl ?_
  refine aw_iload_n (j := 1) (i := 1) dL_openUnits_3 rfl rfl rfl ?_
  refine aw_callVT (M' := mX11_openUnits) (S := [vI 0, vR 66 0]) (as := [vI a1]) (k := k) dL_openUnits_4 rfl (by decide) rfl rfl gh_1241 gh_1242 gh_1243 mb_X11_openUnits hk (Nat.le_of_ble_eq_true rfl) rfl (CL.imp cc (fun v h1 k1 => ?_) (fun E h1 k1 => ?_))
  · obtain ⟨r, rfl, k1⟩ := oI_of k1
    show AW _ (d + 1) (1 - k) mL_openUnits 7 _ [vI r, vI 0, vR 66 0] h1 _ _
    refine aw_i2l dL_openUnits_7 rfl ?_
    refine aw_last dL_openUnits_8 rfl (by decide) rfl oa_in01 ?_
    refine aw_goto 15 dL_openUnits_9 rfl ?_
    refine aw_iconst (v := 0) dL_openUnits_15 rfl (by decide) ?_
    exact aw_iret dL_openUnits_16 rfl k1
  · obtain ⟨rfl, k1⟩ := k1
    exact ⟨1, ct_L_openUnits_1, k1⟩
theorem mb_L_openUnits : oa_MBH mL_openUnits 3 := ⟨gh_1240, gh_85, ⟨by decide +kernel, by decide +kernel⟩, by decide +kernel, by decide⟩
theorem dL_reservedUnits_0 : decode cL_reservedUnits 0 = .ok (.aload_n 2, 1) := by decide +kernel
theorem dL_reservedUnits_1 : decode cL_reservedUnits 1 = .ok (.iconst 0, 1) := by decide +kernel
theorem dL_reservedUnits_2 : decode cL_reservedUnits 2 = .ok (.aload_n 0, 1) := by decide +kernel
theorem dL_reservedUnits_3 : decode cL_reservedUnits 3 = .ok (.iload_n 1, 1) := by decide +kernel
theorem dL_reservedUnits_4 : decode cL_reservedUnits 4 = .ok (.invokevirtual 70, 3) := by decide +kernel
theorem dL_reservedUnits_7 : decode cL_reservedUnits 7 = .ok (.i2l, 1) := by decide +kernel
theorem dL_reservedUnits_8 : decode cL_reservedUnits 8 = .ok (.lastore, 1) := by decide +kernel
theorem dL_reservedUnits_9 : decode cL_reservedUnits 9 = .ok (.goto 6, 3) := by decide +kernel
theorem dL_reservedUnits_12 : decode cL_reservedUnits 12 = .ok (.astore_n 3, 1) := by decide +kernel
theorem dL_reservedUnits_13 : decode cL_reservedUnits 13 = .ok (.iconst 1, 1) := by decide +kernel
theorem dL_reservedUnits_14 : decode cL_reservedUnits 14 = .ok (.ireturn, 1) := by decide +kernel
theorem dL_reservedUnits_15 : decode cL_reservedUnits 15 = .ok (.iconst 0, 1) := by decide +kernel
theorem dL_reservedUnits_16 : decode cL_reservedUnits 16 = .ok (.ireturn, 1) := by decide +kernel
theorem ct_L_reservedUnits_1 : oa_ct mL_reservedUnits 4 "java/lang/IndexOutOfBoundsException" 1 := ⟨[], [], (0, 9, 12, 19), "java/lang/IndexOutOfBoundsException", 3, 13, rfl, (fun _ z => nomatch z), by decide, by decide, gh_1044, (List.mem_of_getElem? (i := 1056) (by decide +kernel)), by decide, Or.inl ⟨3, rfl, dL_reservedUnits_12, rfl⟩, ⟨1, dL_reservedUnits_13, by decide⟩, dL_reservedUnits_14, rfl⟩
theorem ch_L_reservedUnits {d k : Nat} {h : Hp} {a1 : Int32} {P : Int32 → Hp → Prop} {Qx : String → Hp → Prop} (hk : k ≤ 1) (cc : CL k d mX11_reservedUnits [vR 11 0, vI a1] h (oI fun r h' => P 0 (hp_l h' 66 0 0 r.toInt64)) (fun E h' => (E = "java/lang/IndexOutOfBoundsException" ∧ P 1 h'))) : CLH 1 (d + 1) mL_reservedUnits [vR 11 0, vI a1, vR 66 0] h (oI P) Qx := by
  refine CLH.of rfl (Nat.le_of_ble_eq_true rfl) ?_
  refine aw_aload_n (j := 2) (i := 2) dL_reservedUnits_0 rfl rfl rfl ?_
  refine aw_iconst (v := 0) dL_reservedUnits_1 rfl (by decide) ?_
  refine aw_aload_n (j := 0) (i := 0) dL_reservedUnits_2 rfl rfl rfl ?_
  refine aw_iload_n (j := 1) (i := 1) dL_reservedUnits_3 rfl rfl rfl ?_
  refine aw_callVT (M' := mX11_reservedUnits) (S := [vI 0, vR 66 0]) (as := [vI a1]) (k := k) dL_reservedUnits_4 rfl (by decide) rfl rfl gh_1248 gh_1249 gh_1250 mb_X11_reservedUnits hk (Nat.le_of_ble_eq_true rfl) rfl (CL.imp cc (fun v h1 k1 => ?_) (fun E h1 k1 => ?_))
  · obtain ⟨r, rfl, k1⟩ := oI_of k1
    show AW _ (d + 1) (1 - k) mL_reservedUnits 7 _ [vI r, vI 0, vR 66 0] h1 _ _
    refine aw_i2l dL_reservedUnits_7 rfl ?_
    refine aw_last dL_reservedUnits_8 rfl (by decide) rfl oa_in01 ?_
    refine aw_goto 15 dL_reservedUnits_9 rfl ?_
    refine aw_iconst (v := 0) dL_reservedUnits_15 rfl (by decide) ?_
    exact aw_iret dL_reservedUnits_16 rfl k1
  · obtain ⟨rfl, k1⟩ := k1
    exact ⟨1, ct_L_reservedUnits_1, k1⟩
theorem mb_L_reservedUnits : oa_MBH mL_reservedUnits 3 := ⟨gh_1247, gh_85, ⟨by decide +kernel, by decide +kernel⟩, by decide +kernel, by decide⟩
theorem dL_shippedUnits_0 : decode cL_shippedUnits 0 = .ok (.aload_n 2, 1) := by decide +kernel
theorem dL_shippedUnits_1 : decode cL_shippedUnits 1 = .ok (.iconst 0, 1) := by decide +kernel
theorem dL_shippedUnits_2 : decode cL_shippedUnits 2 = .ok (.aload_n 0, 1) := by decide +kernel
theorem dL_shippedUnits_3 : decode cL_shippedUnits 3 = .ok (.iload_n 1, 1) := by decide +kernel
theorem dL_shippedUnits_4 : decode cL_shippedUnits 4 = .ok (.invokevirtual 73, 3) := by decide +kernel
theorem dL_shippedUnits_7 : decode cL_shippedUnits 7 = .ok (.i2l, 1) := by decide +kernel
theorem dL_shippedUnits_8 : decode cL_shippedUnits 8 = .ok (.lastore, 1) := by decide +kernel
theorem dL_shippedUnits_9 : decode cL_shippedUnits 9 = .ok (.goto 6, 3) := by decide +kernel
theorem dL_shippedUnits_12 : decode cL_shippedUnits 12 = .ok (.astore_n 3, 1) := by decide +kernel
theorem dL_shippedUnits_13 : decode cL_shippedUnits 13 = .ok (.iconst 1, 1) := by decide +kernel
theorem dL_shippedUnits_14 : decode cL_shippedUnits 14 = .ok (.ireturn, 1) := by decide +kernel
theorem dL_shippedUnits_15 : decode cL_shippedUnits 15 = .ok (.iconst 0, 1) := by decide +kernel
theorem dL_shippedUnits_16 : decode cL_shippedUnits 16 = .ok (.ireturn, 1) := by decide +kernel
theorem ct_L_shippedUnits_1 : oa_ct mL_shippedUnits 4 "java/lang/IndexOutOfBoundsException" 1 := ⟨[], [], (0, 9, 12, 19), "java/lang/IndexOutOfBoundsException", 3, 13, rfl, (fun _ z => nomatch z), by decide, by decide, gh_1044, (List.mem_of_getElem? (i := 1056) (by decide +kernel)), by decide, Or.inl ⟨3, rfl, dL_shippedUnits_12, rfl⟩, ⟨1, dL_shippedUnits_13, by decide⟩, dL_shippedUnits_14, rfl⟩
theorem ch_L_shippedUnits {d k : Nat} {h : Hp} {a1 : Int32} {P : Int32 → Hp → Prop} {Qx : String → Hp → Prop} (hk : k ≤ 1) (cc : CL k d mX11_shippedUnits [vR 11 0, vI a1] h (oI fun r h' => P 0 (hp_l h' 66 0 0 r.toInt64)) (fun E h' => (E = "java/lang/IndexOutOfBoundsException" ∧ P 1 h'))) : CLH 1 (d + 1) mL_shippedUnits [vR 11 0, vI a1, vR 66 0] h (oI P) Qx := by
  refine CLH.of rfl (Nat.le_of_ble_eq_true rfl) ?_
  refine aw_aload_n (j := 2) (i := 2) dL_shippedUnits_0 rfl rfl rfl ?_
  refine aw_iconst (v := 0) dL_shippedUnits_1 rfl (by decide) ?_
  refine aw_aload_n (j := 0) (i := 0) dL_shippedUnits_2 rfl rfl rfl ?_
  refine aw_iload_n (j := 1) (i := 1) dL_shippedUnits_3 rfl rfl rfl ?_
  refine aw_callVT (M' := mX11_shippedUnits) (S := [vI 0, vR 66 0]) (as := [vI a1]) (k := k) dL_shippedUnits_4 rfl (by decide) rfl rfl gh_1256 gh_1257 gh_1258 mb_X11_shippedUnits hk (Nat.le_of_ble_eq_true rfl) rfl (CL.imp cc (fun v h1 k1 => ?_) (fun E h1 k1 => ?_))
  · obtain ⟨r, rfl, k1⟩ := oI_of k1
    show AW _ (d + 1) (1 - k) mL_shippedUnits 7 _ [vI r, vI 0, vR 66 0] h1 _ _
    refine aw_i2l dL_shippedUnits_7 rfl ?_
    refine aw_last dL_shippedUnits_8 rfl (by decide) rfl oa_in01 ?_
    refine aw_goto 15 dL_shippedUnits_9 rfl ?_
    refine aw_iconst (v := 0) dL_shippedUnits_15 rfl (by decide) ?_
    exact aw_iret dL_shippedUnits_16 rfl k1
  · obtain ⟨rfl, k1⟩ := k1
    exact ⟨1, ct_L_shippedUnits_1, k1⟩
theorem mb_L_shippedUnits : oa_MBH mL_shippedUnits 3 := ⟨gh_1255, gh_85, ⟨by decide +kernel, by decide +kernel⟩, by decide +kernel, by decide⟩
theorem dL_orderField_0 : decode cL_orderField 0 = .ok (.aload_n 3, 1) := by decide +kernel
theorem dL_orderField_1 : decode cL_orderField 1 = .ok (.iconst 0, 1) := by decide +kernel
theorem dL_orderField_2 : decode cL_orderField 2 = .ok (.aload_n 0, 1) := by decide +kernel
theorem dL_orderField_3 : decode cL_orderField 3 = .ok (.iload_n 1, 1) := by decide +kernel
theorem dL_orderField_4 : decode cL_orderField 4 = .ok (.iload_n 2, 1) := by decide +kernel
theorem dL_orderField_5 : decode cL_orderField 5 = .ok (.invokevirtual 76, 3) := by decide +kernel
theorem dL_orderField_8 : decode cL_orderField 8 = .ok (.i2l, 1) := by decide +kernel
theorem dL_orderField_9 : decode cL_orderField 9 = .ok (.lastore, 1) := by decide +kernel
theorem dL_orderField_10 : decode cL_orderField 10 = .ok (.goto 7, 3) := by decide +kernel
theorem dL_orderField_13 : decode cL_orderField 13 = .ok (.astore 4, 2) := by decide +kernel
theorem dL_orderField_15 : decode cL_orderField 15 = .ok (.iconst 1, 1) := by decide +kernel
theorem dL_orderField_16 : decode cL_orderField 16 = .ok (.ireturn, 1) := by decide +kernel
theorem dL_orderField_17 : decode cL_orderField 17 = .ok (.iconst 0, 1) := by decide +kernel
theorem dL_orderField_18 : decode cL_orderField 18 = .ok (.ireturn, 1) := by decide +kernel
theorem ct_L_orderField_1 : oa_ct mL_orderField 5 "java/lang/IndexOutOfBoundsException" 1 := ⟨[], [], (0, 10, 13, 19), "java/lang/IndexOutOfBoundsException", 4, 15, rfl, (fun _ z => nomatch z), by decide, by decide, gh_1044, (List.mem_of_getElem? (i := 1056) (by decide +kernel)), by decide, Or.inr ⟨dL_orderField_13, rfl⟩, ⟨1, dL_orderField_15, by decide⟩, dL_orderField_16, rfl⟩
theorem ch_L_orderField {d k : Nat} {h : Hp} {a1 a2 : Int32} {P : Int32 → Hp → Prop} {Qx : String → Hp → Prop} (hk : k ≤ 1) (cc : CL k d mX11_orderField [vR 11 0, vI a1, vI a2] h (oI fun r h' => P 0 (hp_l h' 66 0 0 r.toInt64)) (fun E h' => (E = "java/lang/IndexOutOfBoundsException" ∧ P 1 h'))) : CLH 1 (d + 1) mL_orderField [vR 11 0, vI a1, vI a2, vR 66 0] h (oI P) Qx := by
  refine CLH.of rfl (Nat.le_of_ble_eq_true rfl) ?_
  refine aw_aload_n (j := 3) (i := 3) dL_orderField_0 rfl rfl rfl ?_
  refine aw_iconst (v := 0) dL_orderField_1 rfl (by decide) ?_
  refine aw_aload_n (j := 0) (i := 0) dL_orderField_2 rfl rfl rfl ?_
  refine aw_iload_n (j := 1) (i := 1) dL_orderField_3 rfl rfl rfl ?_
  refine aw_iload_n (j := 2) (i := 2) dL_orderField_4 rfl rfl rfl ?_
  refine aw_callVT (M' := mX11_orderField) (S := [vI 0, vR 66 0]) (as := [vI a1, vI a2]) (k := k) dL_orderField_5 rfl (by decide) rfl rfl gh_1267 gh_1268 gh_1269 mb_X11_orderField hk (Nat.le_of_ble_eq_true rfl) rfl (CL.imp cc (fun v h1 k1 => ?_) (fun E h1 k1 => ?_))
  · obtain ⟨r, rfl, k1⟩ := oI_of k1
    show AW _ (d + 1) (1 - k) mL_orderField 8 _ [vI r, vI 0, vR 66 0] h1 _ _
    refine aw_i2l dL_orderField_8 rfl ?_
    refine aw_last dL_orderField_9 rfl (by decide) rfl oa_in01 ?_
    refine aw_goto 17 dL_orderField_10 rfl ?_
    refine aw_iconst (v := 0) dL_orderField_17 rfl (by decide) ?_
    exact aw_iret dL_orderField_18 rfl k1
  · obtain ⟨rfl, k1⟩ := k1
    exact ⟨1, ct_L_orderField_1, k1⟩
theorem mb_L_orderField : oa_MBH mL_orderField 4 := ⟨gh_1266, gh_85, ⟨by decide +kernel, by decide +kernel⟩, by decide +kernel, by decide⟩
theorem dL_missing_0 : decode cL_missing 0 = .ok (.aload_n 3, 1) := by decide +kernel
theorem dL_missing_1 : decode cL_missing 1 = .ok (.iconst 0, 1) := by decide +kernel
theorem dL_missing_2 : decode cL_missing 2 = .ok (.aload_n 0, 1) := by decide +kernel
theorem dL_missing_3 : decode cL_missing 3 = .ok (.iload_n 1, 1) := by decide +kernel
theorem dL_missing_4 : decode cL_missing 4 = .ok (.iload_n 2, 1) := by decide +kernel
theorem dL_missing_5 : decode cL_missing 5 = .ok (.invokevirtual 79, 3) := by decide +kernel
theorem dL_missing_8 : decode cL_missing 8 = .ok (.i2l, 1) := by decide +kernel
theorem dL_missing_9 : decode cL_missing 9 = .ok (.lastore, 1) := by decide +kernel
theorem dL_missing_10 : decode cL_missing 10 = .ok (.goto 7, 3) := by decide +kernel
theorem dL_missing_13 : decode cL_missing 13 = .ok (.astore 4, 2) := by decide +kernel
theorem dL_missing_15 : decode cL_missing 15 = .ok (.iconst 1, 1) := by decide +kernel
theorem dL_missing_16 : decode cL_missing 16 = .ok (.ireturn, 1) := by decide +kernel
theorem dL_missing_17 : decode cL_missing 17 = .ok (.iconst 0, 1) := by decide +kernel
theorem dL_missing_18 : decode cL_missing 18 = .ok (.ireturn, 1) := by decide +kernel
theorem ct_L_missing_1 : oa_ct mL_missing 5 "java/lang/IndexOutOfBoundsException" 1 := ⟨[], [], (0, 10, 13, 19), "java/lang/IndexOutOfBoundsException", 4, 15, rfl, (fun _ z => nomatch z), by decide, by decide, gh_1044, (List.mem_of_getElem? (i := 1056) (by decide +kernel)), by decide, Or.inr ⟨dL_missing_13, rfl⟩, ⟨1, dL_missing_15, by decide⟩, dL_missing_16, rfl⟩
theorem ch_L_missing {d k : Nat} {h : Hp} {a1 a2 : Int32} {P : Int32 → Hp → Prop} {Qx : String → Hp → Prop} (hk : k ≤ 1) (cc : CL k d mX11_missing [vR 11 0, vI a1, vI a2] h (oI fun r h' => P 0 (hp_l h' 66 0 0 r.toInt64)) (fun E h' => (E = "java/lang/IndexOutOfBoundsException" ∧ P 1 h'))) : CLH 1 (d + 1) mL_missing [vR 11 0, vI a1, vI a2, vR 66 0] h (oI P) Qx := by
  refine CLH.of rfl (Nat.le_of_ble_eq_true rfl) ?_
  refine aw_aload_n (j := 3) (i := 3) dL_missing_0 rfl rfl rfl ?_
  refine aw_iconst (v := 0) dL_missing_1 rfl (by decide) ?_
  refine aw_aload_n (j := 0) (i := 0) dL_missing_2 rfl rfl rfl ?_
  refine aw_iload_n (j := 1) (i := 1) dL_missing_3 rfl rfl rfl ?_
  refine aw_iload_n (j := 2) (i := 2) dL_missing_4 rfl rfl rfl ?_
  refine aw_callVT (M' := mX11_missing) (S := [vI 0, vR 66 0]) (as := [vI a1, vI a2]) (k := k) dL_missing_5 rfl (by decide) rfl rfl gh_1280 gh_1281 gh_1282 mb_X11_missing hk (Nat.le_of_ble_eq_true rfl) rfl (CL.imp cc (fun v h1 k1 => ?_) (fun E h1 k1 => ?_))
  · obtain ⟨r, rfl, k1⟩ := oI_of k1
    show AW _ (d + 1) (1 - k) mL_missing 8 _ [vI r, vI 0, vR 66 0] h1 _ _
    refine aw_i2l dL_missing_8 rfl ?_
    refine aw_last dL_missing_9 rfl (by decide) rfl oa_in01 ?_
    refine aw_goto 17 dL_missing_10 rfl ?_
    refine aw_iconst (v := 0) dL_missing_17 rfl (by decide) ?_
    exact aw_iret dL_missing_18 rfl k1
  · obtain ⟨rfl, k1⟩ := k1
    exact ⟨1, ct_L_missing_1, k1⟩
theorem mb_L_missing : oa_MBH mL_missing 4 := ⟨gh_1279, gh_85, ⟨by decide +kernel, by decide +kernel⟩, by decide +kernel, by decide⟩
theorem dL_toBuy_0 : decode cL_toBuy 0 = .ok (.aload_n 2, 1) := by decide +kernel
theorem dL_toBuy_1 : decode cL_toBuy 1 = .ok (.iconst 0, 1) := by decide +kernel
theorem dL_toBuy_2 : decode cL_toBuy 2 = .ok (.aload_n 0, 1) := by decide +kernel
theorem dL_toBuy_3 : decode cL_toBuy 3 = .ok (.iload_n 1, 1) := by decide +kernel
theorem dL_toBuy_4 : decode cL_toBuy 4 = .ok (.invokevirtual 82, 3) := by decide +kernel
theorem dL_toBuy_7 : decode cL_toBuy 7 = .ok (.i2l, 1) := by decide +kernel
theorem dL_toBuy_8 : decode cL_toBuy 8 = .ok (.lastore, 1) := by decide +kernel
theorem dL_toBuy_9 : decode cL_toBuy 9 = .ok (.goto 6, 3) := by decide +kernel
theorem dL_toBuy_12 : decode cL_toBuy 12 = .ok (.astore_n 3, 1) := by decide +kernel
theorem dL_toBuy_13 : decode cL_toBuy 13 = .ok (.iconst 1, 1) := by decide +kernel
theorem dL_toBuy_14 : decode cL_toBuy 14 = .ok (.ireturn, 1) := by decide +kernel
theorem dL_toBuy_15 : decode cL_toBuy 15 = .ok (.iconst 0, 1) := by decide +kernel
theorem dL_toBuy_16 : decode cL_toBuy 16 = .ok (.ireturn, 1) := by decide +kernel
theorem ct_L_toBuy_1 : oa_ct mL_toBuy 4 "java/lang/IndexOutOfBoundsException" 1 := ⟨[], [], (0, 9, 12, 19), "java/lang/IndexOutOfBoundsException", 3, 13, rfl, (fun _ z => nomatch z), by decide, by decide, gh_1044, (List.mem_of_getElem? (i := 1056) (by decide +kernel)), by decide, Or.inl ⟨3, rfl, dL_toBuy_12, rfl⟩, ⟨1, dL_toBuy_13, by decide⟩, dL_toBuy_14, rfl⟩
theorem ch_L_toBuy {d k : Nat} {h : Hp} {a1 : Int32} {P : Int32 → Hp → Prop} {Qx : String → Hp → Prop} (hk : k ≤ 1) (cc : CL k d mX11_toBuy [vR 11 0, vI a1] h (oI fun r h' => P 0 (hp_l h' 66 0 0 r.toInt64)) (fun E h' => (E = "java/lang/IndexOutOfBoundsException" ∧ P 1 h'))) : CLH 1 (d + 1) mL_toBuy [vR 11 0, vI a1, vR 66 0] h (oI P) Qx := by
  refine CLH.of rfl (Nat.le_of_ble_eq_true rfl) ?_
  refine aw_aload_n (j := 2) (i := 2) dL_toBuy_0 rfl rfl rfl ?_
  refine aw_iconst (v := 0) dL_toBuy_1 rfl (by decide) ?_
  refine aw_aload_n (j := 0) (i := 0) dL_toBuy_2 rfl rfl rfl ?_
  refine aw_iload_n (j := 1) (i := 1) dL_toBuy_3 rfl rfl rfl ?_
  refine aw_callVT (M' := mX11_toBuy) (S := [vI 0, vR 66 0]) (as := [vI a1]) (k := k) dL_toBuy_4 rfl (by decide) rfl rfl gh_1291 gh_1292 gh_1293 mb_X11_toBuy hk (Nat.le_of_ble_eq_true rfl) rfl (CL.imp cc (fun v h1 k1 => ?_) (fun E h1 k1 => ?_))
  · obtain ⟨r, rfl, k1⟩ := oI_of k1
    show AW _ (d + 1) (1 - k) mL_toBuy 7 _ [vI r, vI 0, vR 66 0] h1 _ _
    refine aw_i2l dL_toBuy_7 rfl ?_
    refine aw_last dL_toBuy_8 rfl (by decide) rfl oa_in01 ?_
    refine aw_goto 15 dL_toBuy_9 rfl ?_
    refine aw_iconst (v := 0) dL_toBuy_15 rfl (by decide) ?_
    exact aw_iret dL_toBuy_16 rfl k1
  · obtain ⟨rfl, k1⟩ := k1
    exact ⟨1, ct_L_toBuy_1, k1⟩
theorem mb_L_toBuy : oa_MBH mL_toBuy 3 := ⟨gh_1290, gh_85, ⟨by decide +kernel, by decide +kernel⟩, by decide +kernel, by decide⟩
theorem dL_promise_0 : decode cL_promise 0 = .ok (.aload_n 3, 1) := by decide +kernel
theorem dL_promise_1 : decode cL_promise 1 = .ok (.iconst 0, 1) := by decide +kernel
theorem dL_promise_2 : decode cL_promise 2 = .ok (.aload_n 0, 1) := by decide +kernel
theorem dL_promise_3 : decode cL_promise 3 = .ok (.iload_n 1, 1) := by decide +kernel
theorem dL_promise_4 : decode cL_promise 4 = .ok (.iload_n 2, 1) := by decide +kernel
theorem dL_promise_5 : decode cL_promise 5 = .ok (.invokevirtual 85, 3) := by decide +kernel
theorem dL_promise_8 : decode cL_promise 8 = .ok (.i2l, 1) := by decide +kernel
theorem dL_promise_9 : decode cL_promise 9 = .ok (.lastore, 1) := by decide +kernel
theorem dL_promise_10 : decode cL_promise 10 = .ok (.goto 11, 3) := by decide +kernel
theorem dL_promise_13 : decode cL_promise 13 = .ok (.astore 4, 2) := by decide +kernel
theorem dL_promise_15 : decode cL_promise 15 = .ok (.iconst 1, 1) := by decide +kernel
theorem dL_promise_16 : decode cL_promise 16 = .ok (.ireturn, 1) := by decide +kernel
theorem dL_promise_17 : decode cL_promise 17 = .ok (.astore 4, 2) := by decide +kernel
theorem dL_promise_19 : decode cL_promise 19 = .ok (.iconst 2, 1) := by decide +kernel
theorem dL_promise_20 : decode cL_promise 20 = .ok (.ireturn, 1) := by decide +kernel
theorem dL_promise_21 : decode cL_promise 21 = .ok (.iconst 0, 1) := by decide +kernel
theorem dL_promise_22 : decode cL_promise 22 = .ok (.ireturn, 1) := by decide +kernel
theorem ct_L_promise_1 : oa_ct mL_promise 5 "java/lang/IndexOutOfBoundsException" 1 := ⟨[], [(0, 10, 17, 13)], (0, 10, 13, 19), "java/lang/IndexOutOfBoundsException", 4, 15, rfl, (fun _ z => nomatch z), by decide, by decide, gh_1044, (List.mem_of_getElem? (i := 1056) (by decide +kernel)), by decide, Or.inr ⟨dL_promise_13, rfl⟩, ⟨1, dL_promise_15, by decide⟩, dL_promise_16, rfl⟩
theorem ct_L_promise_2 : oa_ct mL_promise 5 "java/lang/IllegalArgumentException" 2 := ⟨[(0, 10, 13, 19)], [], (0, 10, 17, 13), "java/lang/IllegalArgumentException", 4, 19, rfl, (List.forall_mem_cons.mpr ⟨⟨by decide, "java/lang/IndexOutOfBoundsException", gh_1044, List.mem_of_getElem? (i := 0) rfl⟩, (fun _ z => nomatch z)⟩), by decide, by decide, gh_738, (List.mem_of_getElem? (i := 964) (by decide +kernel)), by decide, Or.inr ⟨dL_promise_17, rfl⟩, ⟨2, dL_promise_19, by decide⟩, dL_promise_20, rfl⟩
theorem ch_L_promise {d k : Nat} {h : Hp} {a1 a2 : Int32} {P : Int32 → Hp → Prop} {Qx : String → Hp → Prop} (hk : k ≤ 1) (cc : CL k d mX11_promise [vR 11 0, vI a1, vI a2] h (oI fun r h' => P 0 (hp_l h' 66 0 0 r.toInt64)) (fun E h' => (E = "java/lang/IndexOutOfBoundsException" ∧ P 1 h') ∨ (E = "java/lang/IllegalArgumentException" ∧ P 2 h'))) : CLH 1 (d + 1) mL_promise [vR 11 0, vI a1, vI a2, vR 66 0] h (oI P) Qx := by
  refine CLH.of rfl (Nat.le_of_ble_eq_true rfl) ?_
  refine aw_aload_n (j := 3) (i := 3) dL_promise_0 rfl rfl rfl ?_
  refine aw_iconst (v := 0) dL_promise_1 rfl (by decide) ?_
  refine aw_aload_n (j := 0) (i := 0) dL_promise_2 rfl rfl rfl ?_
  refine aw_iload_n (j := 1) (i := 1) dL_promise_3 rfl rfl rfl ?_
  refine aw_iload_n (j := 2) (i := 2) dL_promise_4 rfl rfl rfl ?_
  refine aw_callVT (M' := mX11_promise) (S := [vI 0, vR 66 0]) (as := [vI a1, vI a2]) (k := k) dL_promise_5 rfl (by decide) rfl rfl gh_1298 gh_1299 gh_1300 mb_X11_promise hk (Nat.le_of_ble_eq_true rfl) rfl (CL.imp cc (fun v h1 k1 => ?_) (fun E h1 k1 => ?_))
  · obtain ⟨r, rfl, k1⟩ := oI_of k1
    show AW _ (d + 1) (1 - k) mL_promise 8 _ [vI r, vI 0, vR 66 0] h1 _ _
    refine aw_i2l dL_promise_8 rfl ?_
    refine aw_last dL_promise_9 rfl (by decide) rfl oa_in01 ?_
    refine aw_goto 21 dL_promise_10 rfl ?_
    refine aw_iconst (v := 0) dL_promise_21 rfl (by decide) ?_
    exact aw_iret dL_promise_22 rfl k1
  · rcases k1 with ⟨rfl, k1⟩ | ⟨rfl, k1⟩
    · exact ⟨1, ct_L_promise_1, k1⟩
    · exact ⟨2, ct_L_promise_2, k1⟩
theorem mb_L_promise : oa_MBH mL_promise 4 := ⟨gh_1297, gh_85, ⟨by decide +kernel, by decide +kernel⟩, by decide +kernel, by decide⟩
theorem dL_promiseOf_0 : decode cL_promiseOf 0 = .ok (.aload_n 2, 1) := by decide +kernel
theorem dL_promiseOf_1 : decode cL_promiseOf 1 = .ok (.iconst 0, 1) := by decide +kernel
theorem dL_promiseOf_2 : decode cL_promiseOf 2 = .ok (.aload_n 0, 1) := by decide +kernel
theorem dL_promiseOf_3 : decode cL_promiseOf 3 = .ok (.iload_n 1, 1) := by decide +kernel
theorem dL_promiseOf_4 : decode cL_promiseOf 4 = .ok (.invokevirtual 88, 3) := by decide +kernel
theorem dL_promiseOf_7 : decode cL_promiseOf 7 = .ok (.i2l, 1) := by decide +kernel
theorem dL_promiseOf_8 : decode cL_promiseOf 8 = .ok (.lastore, 1) := by decide +kernel
theorem dL_promiseOf_9 : decode cL_promiseOf 9 = .ok (.goto 6, 3) := by decide +kernel
theorem dL_promiseOf_12 : decode cL_promiseOf 12 = .ok (.astore_n 3, 1) := by decide +kernel
theorem dL_promiseOf_13 : decode cL_promiseOf 13 = .ok (.iconst 1, 1) := by decide +kernel
theorem dL_promiseOf_14 : decode cL_promiseOf 14 = .ok (.ireturn, 1) := by decide +kernel
theorem dL_promiseOf_15 : decode cL_promiseOf 15 = .ok (.iconst 0, 1) := by decide +kernel
theorem dL_promiseOf_16 : decode cL_promiseOf 16 = .ok (.ireturn, 1) := by decide +kernel
theorem ct_L_promiseOf_1 : oa_ct mL_promiseOf 4 "java/lang/IndexOutOfBoundsException" 1 := ⟨[], [], (0, 9, 12, 19), "java/lang/IndexOutOfBoundsException", 3, 13, rfl, (fun _ z => nomatch z), by decide, by decide, gh_1044, (List.mem_of_getElem? (i := 1056) (by decide +kernel)), by decide, Or.inl ⟨3, rfl, dL_promiseOf_12, rfl⟩, ⟨1, dL_promiseOf_13, by decide⟩, dL_promiseOf_14, rfl⟩
theorem ch_L_promiseOf {d k : Nat} {h : Hp} {a1 : Int32} {P : Int32 → Hp → Prop} {Qx : String → Hp → Prop} (hk : k ≤ 1) (cc : CL k d mX11_promiseOf [vR 11 0, vI a1] h (oI fun r h' => P 0 (hp_l h' 66 0 0 r.toInt64)) (fun E h' => (E = "java/lang/IndexOutOfBoundsException" ∧ P 1 h'))) : CLH 1 (d + 1) mL_promiseOf [vR 11 0, vI a1, vR 66 0] h (oI P) Qx := by
  refine CLH.of rfl (Nat.le_of_ble_eq_true rfl) ?_
  refine aw_aload_n (j := 2) (i := 2) dL_promiseOf_0 rfl rfl rfl ?_
  refine aw_iconst (v := 0) dL_promiseOf_1 rfl (by decide) ?_
  refine aw_aload_n (j := 0) (i := 0) dL_promiseOf_2 rfl rfl rfl ?_
  refine aw_iload_n (j := 1) (i := 1) dL_promiseOf_3 rfl rfl rfl ?_
  refine aw_callVT (M' := mX11_promiseOf) (S := [vI 0, vR 66 0]) (as := [vI a1]) (k := k) dL_promiseOf_4 rfl (by decide) rfl rfl gh_1305 gh_1306 gh_1307 mb_X11_promiseOf hk (Nat.le_of_ble_eq_true rfl) rfl (CL.imp cc (fun v h1 k1 => ?_) (fun E h1 k1 => ?_))
  · obtain ⟨r, rfl, k1⟩ := oI_of k1
    show AW _ (d + 1) (1 - k) mL_promiseOf 7 _ [vI r, vI 0, vR 66 0] h1 _ _
    refine aw_i2l dL_promiseOf_7 rfl ?_
    refine aw_last dL_promiseOf_8 rfl (by decide) rfl oa_in01 ?_
    refine aw_goto 15 dL_promiseOf_9 rfl ?_
    refine aw_iconst (v := 0) dL_promiseOf_15 rfl (by decide) ?_
    exact aw_iret dL_promiseOf_16 rfl k1
  · obtain ⟨rfl, k1⟩ := k1
    exact ⟨1, ct_L_promiseOf_1, k1⟩
theorem mb_L_promiseOf : oa_MBH mL_promiseOf 3 := ⟨gh_1304, gh_85, ⟨by decide +kernel, by decide +kernel⟩, by decide +kernel, by decide⟩
theorem dL_delayingPart_0 : decode cL_delayingPart 0 = .ok (.aload_n 2, 1) := by decide +kernel
theorem dL_delayingPart_1 : decode cL_delayingPart 1 = .ok (.iconst 0, 1) := by decide +kernel
theorem dL_delayingPart_2 : decode cL_delayingPart 2 = .ok (.aload_n 0, 1) := by decide +kernel
theorem dL_delayingPart_3 : decode cL_delayingPart 3 = .ok (.iload_n 1, 1) := by decide +kernel
theorem dL_delayingPart_4 : decode cL_delayingPart 4 = .ok (.invokevirtual 91, 3) := by decide +kernel
theorem dL_delayingPart_7 : decode cL_delayingPart 7 = .ok (.i2l, 1) := by decide +kernel
theorem dL_delayingPart_8 : decode cL_delayingPart 8 = .ok (.lastore, 1) := by decide +kernel
theorem dL_delayingPart_9 : decode cL_delayingPart 9 = .ok (.goto 6, 3) := by decide +kernel
theorem dL_delayingPart_12 : decode cL_delayingPart 12 = .ok (.astore_n 3, 1) := by decide +kernel
theorem dL_delayingPart_13 : decode cL_delayingPart 13 = .ok (.iconst 1, 1) := by decide +kernel
theorem dL_delayingPart_14 : decode cL_delayingPart 14 = .ok (.ireturn, 1) := by decide +kernel
theorem dL_delayingPart_15 : decode cL_delayingPart 15 = .ok (.iconst 0, 1) := by decide +kernel
theorem dL_delayingPart_16 : decode cL_delayingPart 16 = .ok (.ireturn, 1) := by decide +kernel
theorem ct_L_delayingPart_1 : oa_ct mL_delayingPart 4 "java/lang/IndexOutOfBoundsException" 1 := ⟨[], [], (0, 9, 12, 19), "java/lang/IndexOutOfBoundsException", 3, 13, rfl, (fun _ z => nomatch z), by decide, by decide, gh_1044, (List.mem_of_getElem? (i := 1056) (by decide +kernel)), by decide, Or.inl ⟨3, rfl, dL_delayingPart_12, rfl⟩, ⟨1, dL_delayingPart_13, by decide⟩, dL_delayingPart_14, rfl⟩
theorem ch_L_delayingPart {d k : Nat} {h : Hp} {a1 : Int32} {P : Int32 → Hp → Prop} {Qx : String → Hp → Prop} (hk : k ≤ 1) (cc : CL k d mX11_delayingPart [vR 11 0, vI a1] h (oI fun r h' => P 0 (hp_l h' 66 0 0 r.toInt64)) (fun E h' => (E = "java/lang/IndexOutOfBoundsException" ∧ P 1 h'))) : CLH 1 (d + 1) mL_delayingPart [vR 11 0, vI a1, vR 66 0] h (oI P) Qx := by
  refine CLH.of rfl (Nat.le_of_ble_eq_true rfl) ?_
  refine aw_aload_n (j := 2) (i := 2) dL_delayingPart_0 rfl rfl rfl ?_
  refine aw_iconst (v := 0) dL_delayingPart_1 rfl (by decide) ?_
  refine aw_aload_n (j := 0) (i := 0) dL_delayingPart_2 rfl rfl rfl ?_
  refine aw_iload_n (j := 1) (i := 1) dL_delayingPart_3 rfl rfl rfl ?_
  refine aw_callVT (M' := mX11_delayingPart) (S := [vI 0, vR 66 0]) (as := [vI a1]) (k := k) dL_delayingPart_4 rfl (by decide) rfl rfl gh_1316 gh_1317 gh_1318 mb_X11_delayingPart hk (Nat.le_of_ble_eq_true rfl) rfl (CL.imp cc (fun v h1 k1 => ?_) (fun E h1 k1 => ?_))
  · obtain ⟨r, rfl, k1⟩ := oI_of k1
    show AW _ (d + 1) (1 - k) mL_delayingPart 7 _ [vI r, vI 0, vR 66 0] h1 _ _
    refine aw_i2l dL_delayingPart_7 rfl ?_
    refine aw_last dL_delayingPart_8 rfl (by decide) rfl oa_in01 ?_
    refine aw_goto 15 dL_delayingPart_9 rfl ?_
    refine aw_iconst (v := 0) dL_delayingPart_15 rfl (by decide) ?_
    exact aw_iret dL_delayingPart_16 rfl k1
  · obtain ⟨rfl, k1⟩ := k1
    exact ⟨1, ct_L_delayingPart_1, k1⟩
theorem mb_L_delayingPart : oa_MBH mL_delayingPart 3 := ⟨gh_1315, gh_85, ⟨by decide +kernel, by decide +kernel⟩, by decide +kernel, by decide⟩
theorem dL_wouldGet_0 : decode cL_wouldGet 0 = .ok (.aload_n 2, 1) := by decide +kernel
theorem dL_wouldGet_1 : decode cL_wouldGet 1 = .ok (.iconst 0, 1) := by decide +kernel
theorem dL_wouldGet_2 : decode cL_wouldGet 2 = .ok (.aload_n 0, 1) := by decide +kernel
theorem dL_wouldGet_3 : decode cL_wouldGet 3 = .ok (.iload_n 1, 1) := by decide +kernel
theorem dL_wouldGet_4 : decode cL_wouldGet 4 = .ok (.invokevirtual 94, 3) := by decide +kernel
theorem dL_wouldGet_7 : decode cL_wouldGet 7 = .ok (.i2l, 1) := by decide +kernel
theorem dL_wouldGet_8 : decode cL_wouldGet 8 = .ok (.lastore, 1) := by decide +kernel
theorem dL_wouldGet_9 : decode cL_wouldGet 9 = .ok (.goto 6, 3) := by decide +kernel
theorem dL_wouldGet_12 : decode cL_wouldGet 12 = .ok (.astore_n 3, 1) := by decide +kernel
theorem dL_wouldGet_13 : decode cL_wouldGet 13 = .ok (.iconst 1, 1) := by decide +kernel
theorem dL_wouldGet_14 : decode cL_wouldGet 14 = .ok (.ireturn, 1) := by decide +kernel
theorem dL_wouldGet_15 : decode cL_wouldGet 15 = .ok (.iconst 0, 1) := by decide +kernel
theorem dL_wouldGet_16 : decode cL_wouldGet 16 = .ok (.ireturn, 1) := by decide +kernel
theorem ct_L_wouldGet_1 : oa_ct mL_wouldGet 4 "java/lang/IndexOutOfBoundsException" 1 := ⟨[], [], (0, 9, 12, 19), "java/lang/IndexOutOfBoundsException", 3, 13, rfl, (fun _ z => nomatch z), by decide, by decide, gh_1044, (List.mem_of_getElem? (i := 1056) (by decide +kernel)), by decide, Or.inl ⟨3, rfl, dL_wouldGet_12, rfl⟩, ⟨1, dL_wouldGet_13, by decide⟩, dL_wouldGet_14, rfl⟩
theorem ch_L_wouldGet {d k : Nat} {h : Hp} {a1 : Int32} {P : Int32 → Hp → Prop} {Qx : String → Hp → Prop} (hk : k ≤ 1) (cc : CL k d mX11_wouldGet [vR 11 0, vI a1] h (oI fun r h' => P 0 (hp_l h' 66 0 0 r.toInt64)) (fun E h' => (E = "java/lang/IndexOutOfBoundsException" ∧ P 1 h'))) : CLH 1 (d + 1) mL_wouldGet [vR 11 0, vI a1, vR 66 0] h (oI P) Qx := by
  refine CLH.of rfl (Nat.le_of_ble_eq_true rfl) ?_
  refine aw_aload_n (j := 2) (i := 2) dL_wouldGet_0 rfl rfl rfl ?_
  refine aw_iconst (v := 0) dL_wouldGet_1 rfl (by decide) ?_
  refine aw_aload_n (j := 0) (i := 0) dL_wouldGet_2 rfl rfl rfl ?_
  refine aw_iload_n (j := 1) (i := 1) dL_wouldGet_3 rfl rfl rfl ?_
  refine aw_callVT (M' := mX11_wouldGet) (S := [vI 0, vR 66 0]) (as := [vI a1]) (k := k) dL_wouldGet_4 rfl (by decide) rfl rfl gh_1323 gh_1324 gh_1325 mb_X11_wouldGet hk (Nat.le_of_ble_eq_true rfl) rfl (CL.imp cc (fun v h1 k1 => ?_) (fun E h1 k1 => ?_))
  · obtain ⟨r, rfl, k1⟩ := oI_of k1
    show AW _ (d + 1) (1 - k) mL_wouldGet 7 _ [vI r, vI 0, vR 66 0] h1 _ _
    refine aw_i2l dL_wouldGet_7 rfl ?_
    refine aw_last dL_wouldGet_8 rfl (by decide) rfl oa_in01 ?_
    refine aw_goto 15 dL_wouldGet_9 rfl ?_
    refine aw_iconst (v := 0) dL_wouldGet_15 rfl (by decide) ?_
    exact aw_iret dL_wouldGet_16 rfl k1
  · obtain ⟨rfl, k1⟩ := k1
    exact ⟨1, ct_L_wouldGet_1, k1⟩
theorem mb_L_wouldGet : oa_MBH mL_wouldGet 3 := ⟨gh_1322, gh_85, ⟨by decide +kernel, by decide +kernel⟩, by decide +kernel, by decide⟩
theorem dL_rungOf_0 : decode cL_rungOf 0 = .ok (.aload_n 2, 1) := by decide +kernel
theorem dL_rungOf_1 : decode cL_rungOf 1 = .ok (.iconst 0, 1) := by decide +kernel
theorem dL_rungOf_2 : decode cL_rungOf 2 = .ok (.aload_n 0, 1) := by decide +kernel
theorem dL_rungOf_3 : decode cL_rungOf 3 = .ok (.iload_n 1, 1) := by decide +kernel
theorem dL_rungOf_4 : decode cL_rungOf 4 = .ok (.invokevirtual 97, 3) := by decide +kernel
theorem dL_rungOf_7 : decode cL_rungOf 7 = .ok (.i2l, 1) := by decide +kernel
theorem dL_rungOf_8 : decode cL_rungOf 8 = .ok (.lastore, 1) := by decide +kernel
theorem dL_rungOf_9 : decode cL_rungOf 9 = .ok (.goto 6, 3) := by decide +kernel
theorem dL_rungOf_12 : decode cL_rungOf 12 = .ok (.astore_n 3, 1) := by decide +kernel
theorem dL_rungOf_13 : decode cL_rungOf 13 = .ok (.iconst 1, 1) := by decide +kernel
theorem dL_rungOf_14 : decode cL_rungOf 14 = .ok (.ireturn, 1) := by decide +kernel
theorem dL_rungOf_15 : decode cL_rungOf 15 = .ok (.iconst 0, 1) := by decide +kernel
theorem dL_rungOf_16 : decode cL_rungOf 16 = .ok (.ireturn, 1) := by decide +kernel
theorem ct_L_rungOf_1 : oa_ct mL_rungOf 4 "java/lang/IndexOutOfBoundsException" 1 := ⟨[], [], (0, 9, 12, 19), "java/lang/IndexOutOfBoundsException", 3, 13, rfl, (fun _ z => nomatch z), by decide, by decide, gh_1044, (List.mem_of_getElem? (i := 1056) (by decide +kernel)), by decide, Or.inl ⟨3, rfl, dL_rungOf_12, rfl⟩, ⟨1, dL_rungOf_13, by decide⟩, dL_rungOf_14, rfl⟩
theorem ch_L_rungOf {d k : Nat} {h : Hp} {a1 : Int32} {P : Int32 → Hp → Prop} {Qx : String → Hp → Prop} (hk : k ≤ 1) (cc : CL k d mX11_rungOf [vR 11 0, vI a1] h (oI fun r h' => P 0 (hp_l h' 66 0 0 r.toInt64)) (fun E h' => (E = "java/lang/IndexOutOfBoundsException" ∧ P 1 h'))) : CLH 1 (d + 1) mL_rungOf [vR 11 0, vI a1, vR 66 0] h (oI P) Qx := by
  refine CLH.of rfl (Nat.le_of_ble_eq_true rfl) ?_
  refine aw_aload_n (j := 2) (i := 2) dL_rungOf_0 rfl rfl rfl ?_
  refine aw_iconst (v := 0) dL_rungOf_1 rfl (by decide) ?_
  refine aw_aload_n (j := 0) (i := 0) dL_rungOf_2 rfl rfl rfl ?_
  refine aw_iload_n (j := 1) (i := 1) dL_rungOf_3 rfl rfl rfl ?_
  refine aw_callVT (M' := mX11_rungOf) (S := [vI 0, vR 66 0]) (as := [vI a1]) (k := k) dL_rungOf_4 rfl (by decide) rfl rfl gh_1330 gh_1331 gh_1332 mb_X11_rungOf hk (Nat.le_of_ble_eq_true rfl) rfl (CL.imp cc (fun v h1 k1 => ?_) (fun E h1 k1 => ?_))
  · obtain ⟨r, rfl, k1⟩ := oI_of k1
    show AW _ (d + 1) (1 - k) mL_rungOf 7 _ [vI r, vI 0, vR 66 0] h1 _ _
    refine aw_i2l dL_rungOf_7 rfl ?_
    refine aw_last dL_rungOf_8 rfl (by decide) rfl oa_in01 ?_
    refine aw_goto 15 dL_rungOf_9 rfl ?_
    refine aw_iconst (v := 0) dL_rungOf_15 rfl (by decide) ?_
    exact aw_iret dL_rungOf_16 rfl k1
  · obtain ⟨rfl, k1⟩ := k1
    exact ⟨1, ct_L_rungOf_1, k1⟩
theorem mb_L_rungOf : oa_MBH mL_rungOf 3 := ⟨gh_1329, gh_85, ⟨by decide +kernel, by decide +kernel⟩, by decide +kernel, by decide⟩
theorem dL_rungUnits_0 : decode cL_rungUnits 0 = .ok (.aload_n 2, 1) := by decide +kernel
theorem dL_rungUnits_1 : decode cL_rungUnits 1 = .ok (.iconst 0, 1) := by decide +kernel
theorem dL_rungUnits_2 : decode cL_rungUnits 2 = .ok (.aload_n 0, 1) := by decide +kernel
theorem dL_rungUnits_3 : decode cL_rungUnits 3 = .ok (.iload_n 1, 1) := by decide +kernel
theorem dL_rungUnits_4 : decode cL_rungUnits 4 = .ok (.invokevirtual 100, 3) := by decide +kernel
theorem dL_rungUnits_7 : decode cL_rungUnits 7 = .ok (.i2l, 1) := by decide +kernel
theorem dL_rungUnits_8 : decode cL_rungUnits 8 = .ok (.lastore, 1) := by decide +kernel
theorem dL_rungUnits_9 : decode cL_rungUnits 9 = .ok (.goto 6, 3) := by decide +kernel
theorem dL_rungUnits_12 : decode cL_rungUnits 12 = .ok (.astore_n 3, 1) := by decide +kernel
theorem dL_rungUnits_13 : decode cL_rungUnits 13 = .ok (.iconst 1, 1) := by decide +kernel
theorem dL_rungUnits_14 : decode cL_rungUnits 14 = .ok (.ireturn, 1) := by decide +kernel
theorem dL_rungUnits_15 : decode cL_rungUnits 15 = .ok (.iconst 0, 1) := by decide +kernel
theorem dL_rungUnits_16 : decode cL_rungUnits 16 = .ok (.ireturn, 1) := by decide +kernel
theorem ct_L_rungUnits_1 : oa_ct mL_rungUnits 4 "java/lang/IndexOutOfBoundsException" 1 := ⟨[], [], (0, 9, 12, 19), "java/lang/IndexOutOfBoundsException", 3, 13, rfl, (fun _ z => nomatch z), by decide, by decide, gh_1044, (List.mem_of_getElem? (i := 1056) (by decide +kernel)), by decide, Or.inl ⟨3, rfl, dL_rungUnits_12, rfl⟩, ⟨1, dL_rungUnits_13, by decide⟩, dL_rungUnits_14, rfl⟩
theorem ch_L_rungUnits {d k : Nat} {h : Hp} {a1 : Int32} {P : Int32 → Hp → Prop} {Qx : String → Hp → Prop} (hk : k ≤ 1) (cc : CL k d mX11_rungUnits [vR 11 0, vI a1] h (oI fun r h' => P 0 (hp_l h' 66 0 0 r.toInt64)) (fun E h' => (E = "java/lang/IndexOutOfBoundsException" ∧ P 1 h'))) : CLH 1 (d + 1) mL_rungUnits [vR 11 0, vI a1, vR 66 0] h (oI P) Qx := by
  refine CLH.of rfl (Nat.le_of_ble_eq_true rfl) ?_
  refine aw_aload_n (j := 2) (i := 2) dL_rungUnits_0 rfl rfl rfl ?_
  refine aw_iconst (v := 0) dL_rungUnits_1 rfl (by decide) ?_
  refine aw_aload_n (j := 0) (i := 0) dL_rungUnits_2 rfl rfl rfl ?_
  refine aw_iload_n (j := 1) (i := 1) dL_rungUnits_3 rfl rfl rfl ?_
  refine aw_callVT (M' := mX11_rungUnits) (S := [vI 0, vR 66 0]) (as := [vI a1]) (k := k) dL_rungUnits_4 rfl (by decide) rfl rfl gh_1341 gh_1342 gh_1343 mb_X11_rungUnits hk (Nat.le_of_ble_eq_true rfl) rfl (CL.imp cc (fun v h1 k1 => ?_) (fun E h1 k1 => ?_))
  · obtain ⟨r, rfl, k1⟩ := oI_of k1
    show AW _ (d + 1) (1 - k) mL_rungUnits 7 _ [vI r, vI 0, vR 66 0] h1 _ _
    refine aw_i2l dL_rungUnits_7 rfl ?_
    refine aw_last dL_rungUnits_8 rfl (by decide) rfl oa_in01 ?_
    refine aw_goto 15 dL_rungUnits_9 rfl ?_
    refine aw_iconst (v := 0) dL_rungUnits_15 rfl (by decide) ?_
    exact aw_iret dL_rungUnits_16 rfl k1
  · obtain ⟨rfl, k1⟩ := k1
    exact ⟨1, ct_L_rungUnits_1, k1⟩
theorem mb_L_rungUnits : oa_MBH mL_rungUnits 3 := ⟨gh_1340, gh_85, ⟨by decide +kernel, by decide +kernel⟩, by decide +kernel, by decide⟩
theorem dL_missingPieces_0 : decode cL_missingPieces 0 = .ok (.aload_n 2, 1) := by decide +kernel
theorem dL_missingPieces_1 : decode cL_missingPieces 1 = .ok (.iconst 0, 1) := by decide +kernel
theorem dL_missingPieces_2 : decode cL_missingPieces 2 = .ok (.aload_n 0, 1) := by decide +kernel
theorem dL_missingPieces_3 : decode cL_missingPieces 3 = .ok (.iload_n 1, 1) := by decide +kernel
theorem dL_missingPieces_4 : decode cL_missingPieces 4 = .ok (.invokevirtual 103, 3) := by decide +kernel
theorem dL_missingPieces_7 : decode cL_missingPieces 7 = .ok (.i2l, 1) := by decide +kernel
theorem dL_missingPieces_8 : decode cL_missingPieces 8 = .ok (.lastore, 1) := by decide +kernel
theorem dL_missingPieces_9 : decode cL_missingPieces 9 = .ok (.goto 6, 3) := by decide +kernel
theorem dL_missingPieces_12 : decode cL_missingPieces 12 = .ok (.astore_n 3, 1) := by decide +kernel
theorem dL_missingPieces_13 : decode cL_missingPieces 13 = .ok (.iconst 1, 1) := by decide +kernel
theorem dL_missingPieces_14 : decode cL_missingPieces 14 = .ok (.ireturn, 1) := by decide +kernel
theorem dL_missingPieces_15 : decode cL_missingPieces 15 = .ok (.iconst 0, 1) := by decide +kernel
theorem dL_missingPieces_16 : decode cL_missingPieces 16 = .ok (.ireturn, 1) := by decide +kernel
theorem ct_L_missingPieces_1 : oa_ct mL_missingPieces 4 "java/lang/IndexOutOfBoundsException" 1 := ⟨[], [], (0, 9, 12, 19), "java/lang/IndexOutOfBoundsException", 3, 13, rfl, (fun _ z => nomatch z), by decide, by decide, gh_1044, (List.mem_of_getElem? (i := 1056) (by decide +kernel)), by decide, Or.inl ⟨3, rfl, dL_missingPieces_12, rfl⟩, ⟨1, dL_missingPieces_13, by decide⟩, dL_missingPieces_14, rfl⟩
theorem ch_L_missingPieces {d k : Nat} {h : Hp} {a1 : Int32} {P : Int32 → Hp → Prop} {Qx : String → Hp → Prop} (hk : k ≤ 1) (cc : CL k d mX11_missingPieces [vR 11 0, vI a1] h (oI fun r h' => P 0 (hp_l h' 66 0 0 r.toInt64)) (fun E h' => (E = "java/lang/IndexOutOfBoundsException" ∧ P 1 h'))) : CLH 1 (d + 1) mL_missingPieces [vR 11 0, vI a1, vR 66 0] h (oI P) Qx := by
  refine CLH.of rfl (Nat.le_of_ble_eq_true rfl) ?_
  refine aw_aload_n (j := 2) (i := 2) dL_missingPieces_0 rfl rfl rfl ?_
  refine aw_iconst (v := 0) dL_missingPieces_1 rfl (by decide) ?_
  refine aw_aload_n (j := 0) (i := 0) dL_missingPieces_2 rfl rfl rfl ?_
  refine aw_iload_n (j := 1) (i := 1) dL_missingPieces_3 rfl rfl rfl ?_
  refine aw_callVT (M' := mX11_missingPieces) (S := [vI 0, vR 66 0]) (as := [vI a1]) (k := k) dL_missingPieces_4 rfl (by decide) rfl rfl gh_1357 gh_1358 gh_1359 mb_X11_missingPieces hk (Nat.le_of_ble_eq_true rfl) rfl (CL.imp cc (fun v h1 k1 => ?_) (fun E h1 k1 => ?_))
  · obtain ⟨r, rfl, k1⟩ := oI_of k1
    show AW _ (d + 1) (1 - k) mL_missingPieces 7 _ [vI r, vI 0, vR 66 0] h1 _ _
    refine aw_i2l dL_missingPieces_7 rfl ?_
    refine aw_last dL_missingPieces_8 rfl (by decide) rfl oa_in01 ?_
    refine aw_goto 15 dL_missingPieces_9 rfl ?_
    refine aw_iconst (v := 0) dL_missingPieces_15 rfl (by decide) ?_
    exact aw_iret dL_missingPieces_16 rfl k1
  · obtain ⟨rfl, k1⟩ := k1
    exact ⟨1, ct_L_missingPieces_1, k1⟩
theorem mb_L_missingPieces : oa_MBH mL_missingPieces 3 := ⟨gh_1356, gh_85, ⟨by decide +kernel, by decide +kernel⟩, by decide +kernel, by decide⟩
theorem dL_buildableAfter_0 : decode cL_buildableAfter 0 = .ok (.aload 4, 2) := by decide +kernel
theorem dL_buildableAfter_2 : decode cL_buildableAfter 2 = .ok (.iconst 0, 1) := by decide +kernel
theorem dL_buildableAfter_3 : decode cL_buildableAfter 3 = .ok (.aload_n 0, 1) := by decide +kernel
theorem dL_buildableAfter_4 : decode cL_buildableAfter 4 = .ok (.iload_n 1, 1) := by decide +kernel
theorem dL_buildableAfter_5 : decode cL_buildableAfter 5 = .ok (.iload_n 2, 1) := by decide +kernel
theorem dL_buildableAfter_6 : decode cL_buildableAfter 6 = .ok (.iload_n 3, 1) := by decide +kernel
theorem dL_buildableAfter_7 : decode cL_buildableAfter 7 = .ok (.invokevirtual 106, 3) := by decide +kernel
theorem dL_buildableAfter_10 : decode cL_buildableAfter 10 = .ok (.i2l, 1) := by decide +kernel
theorem dL_buildableAfter_11 : decode cL_buildableAfter 11 = .ok (.lastore, 1) := by decide +kernel
theorem dL_buildableAfter_12 : decode cL_buildableAfter 12 = .ok (.goto 11, 3) := by decide +kernel
theorem dL_buildableAfter_15 : decode cL_buildableAfter 15 = .ok (.astore 5, 2) := by decide +kernel
theorem dL_buildableAfter_17 : decode cL_buildableAfter 17 = .ok (.iconst 1, 1) := by decide +kernel
theorem dL_buildableAfter_18 : decode cL_buildableAfter 18 = .ok (.ireturn, 1) := by decide +kernel
theorem dL_buildableAfter_19 : decode cL_buildableAfter 19 = .ok (.astore 5, 2) := by decide +kernel
theorem dL_buildableAfter_21 : decode cL_buildableAfter 21 = .ok (.iconst 2, 1) := by decide +kernel
theorem dL_buildableAfter_22 : decode cL_buildableAfter 22 = .ok (.ireturn, 1) := by decide +kernel
theorem dL_buildableAfter_23 : decode cL_buildableAfter 23 = .ok (.iconst 0, 1) := by decide +kernel
theorem dL_buildableAfter_24 : decode cL_buildableAfter 24 = .ok (.ireturn, 1) := by decide +kernel
theorem ct_L_buildableAfter_1 : oa_ct mL_buildableAfter 7 "java/lang/IndexOutOfBoundsException" 1 := ⟨[], [(0, 12, 19, 13)], (0, 12, 15, 19), "java/lang/IndexOutOfBoundsException", 5, 17, rfl, (fun _ z => nomatch z), by decide, by decide, gh_1044, (List.mem_of_getElem? (i := 1056) (by decide +kernel)), by decide, Or.inr ⟨dL_buildableAfter_15, rfl⟩, ⟨1, dL_buildableAfter_17, by decide⟩, dL_buildableAfter_18, rfl⟩
theorem ct_L_buildableAfter_2 : oa_ct mL_buildableAfter 7 "java/lang/IllegalArgumentException" 2 := ⟨[(0, 12, 15, 19)], [], (0, 12, 19, 13), "java/lang/IllegalArgumentException", 5, 21, rfl, (List.forall_mem_cons.mpr ⟨⟨by decide, "java/lang/IndexOutOfBoundsException", gh_1044, List.mem_of_getElem? (i := 0) rfl⟩, (fun _ z => nomatch z)⟩), by decide, by decide, gh_738, (List.mem_of_getElem? (i := 964) (by decide +kernel)), by decide, Or.inr ⟨dL_buildableAfter_19, rfl⟩, ⟨2, dL_buildableAfter_21, by decide⟩, dL_buildableAfter_22, rfl⟩
theorem ch_L_buildableAfter {d k : Nat} {h : Hp} {a1 a2 a3 : Int32} {P : Int32 → Hp → Prop} {Qx : String → Hp → Prop} (hk : k ≤ 1) (cc : CL k d mX11_buildableAfter [vR 11 0, vI a1, vI a2, vI a3] h (oI fun r h' => P 0 (hp_l h' 66 0 0 r.toInt64)) (fun E h' => (E = "java/lang/IndexOutOfBoundsException" ∧ P 1 h') ∨ (E = "java/lang/IllegalArgumentException" ∧ P 2 h'))) : CLH 1 (d + 1) mL_buildableAfter [vR 11 0, vI a1, vI a2, vI a3, vR 66 0] h (oI P) Qx := by
  refine CLH.of rfl (Nat.le_of_ble_eq_true rfl) ?_
  refine aw_aload (j := 4) (i := 4) dL_buildableAfter_0 rfl rfl ?_
  refine aw_iconst (v := 0) dL_buildableAfter_2 rfl (by decide) ?_
  refine aw_aload_n (j := 0) (i := 0) dL_buildableAfter_3 rfl rfl rfl ?_
  refine aw_iload_n (j := 1) (i := 1) dL_buildableAfter_4 rfl rfl rfl ?_
  refine aw_iload_n (j := 2) (i := 2) dL_buildableAfter_5 rfl rfl rfl ?_
  refine aw_iload_n (j := 3) (i := 3) dL_buildableAfter_6 rfl rfl rfl ?_
  refine aw_callVT (M' := mX11_buildableAfter) (S := [vI 0, vR 66 0]) (as := [vI a1, vI a2, vI a3]) (k := k) dL_buildableAfter_7 rfl (by decide) rfl rfl gh_1364 gh_1365 gh_1366 mb_X11_buildableAfter hk (Nat.le_of_ble_eq_true rfl) rfl (CL.imp cc (fun v h1 k1 => ?_) (fun E h1 k1 => ?_))
  · obtain ⟨r, rfl, k1⟩ := oI_of k1
    show AW _ (d + 1) (1 - k) mL_buildableAfter 10 _ [vI r, vI 0, vR 66 0] h1 _ _
    refine aw_i2l dL_buildableAfter_10 rfl ?_
    refine aw_last dL_buildableAfter_11 rfl (by decide) rfl oa_in01 ?_
    refine aw_goto 23 dL_buildableAfter_12 rfl ?_
    refine aw_iconst (v := 0) dL_buildableAfter_23 rfl (by decide) ?_
    exact aw_iret dL_buildableAfter_24 rfl k1
  · rcases k1 with ⟨rfl, k1⟩ | ⟨rfl, k1⟩
    · exact ⟨1, ct_L_buildableAfter_1, k1⟩
    · exact ⟨2, ct_L_buildableAfter_2, k1⟩
theorem mb_L_buildableAfter : oa_MBH mL_buildableAfter 5 := ⟨gh_1363, gh_85, ⟨by decide +kernel, by decide +kernel⟩, by decide +kernel, by decide⟩
theorem dL_addOrder_0 : decode cL_addOrder 0 = .ok (.aload 6, 2) := by decide +kernel
theorem dL_addOrder_2 : decode cL_addOrder 2 = .ok (.iconst 0, 1) := by decide +kernel
theorem dL_addOrder_3 : decode cL_addOrder 3 = .ok (.aload_n 0, 1) := by decide +kernel
theorem dL_addOrder_4 : decode cL_addOrder 4 = .ok (.iload_n 1, 1) := by decide +kernel
theorem dL_addOrder_5 : decode cL_addOrder 5 = .ok (.iload_n 2, 1) := by decide +kernel
theorem dL_addOrder_6 : decode cL_addOrder 6 = .ok (.iload_n 3, 1) := by decide +kernel
theorem dL_addOrder_7 : decode cL_addOrder 7 = .ok (.iload 4, 2) := by decide +kernel
theorem dL_addOrder_9 : decode cL_addOrder 9 = .ok (.iload 5, 2) := by decide +kernel
theorem dL_addOrder_11 : decode cL_addOrder 11 = .ok (.invokevirtual 110, 3) := by decide +kernel
theorem dL_addOrder_14 : decode cL_addOrder 14 = .ok (.i2l, 1) := by decide +kernel
theorem dL_addOrder_15 : decode cL_addOrder 15 = .ok (.lastore, 1) := by decide +kernel
theorem dL_addOrder_16 : decode cL_addOrder 16 = .ok (.goto 15, 3) := by decide +kernel
theorem dL_addOrder_19 : decode cL_addOrder 19 = .ok (.astore 7, 2) := by decide +kernel
theorem dL_addOrder_21 : decode cL_addOrder 21 = .ok (.iconst 1, 1) := by decide +kernel
theorem dL_addOrder_22 : decode cL_addOrder 22 = .ok (.ireturn, 1) := by decide +kernel
theorem dL_addOrder_23 : decode cL_addOrder 23 = .ok (.astore 7, 2) := by decide +kernel
theorem dL_addOrder_25 : decode cL_addOrder 25 = .ok (.iconst 2, 1) := by decide +kernel
theorem dL_addOrder_26 : decode cL_addOrder 26 = .ok (.ireturn, 1) := by decide +kernel
theorem dL_addOrder_27 : decode cL_addOrder 27 = .ok (.astore 7, 2) := by decide +kernel
theorem dL_addOrder_29 : decode cL_addOrder 29 = .ok (.iconst 3, 1) := by decide +kernel
theorem dL_addOrder_30 : decode cL_addOrder 30 = .ok (.ireturn, 1) := by decide +kernel
theorem dL_addOrder_31 : decode cL_addOrder 31 = .ok (.iconst 0, 1) := by decide +kernel
theorem dL_addOrder_32 : decode cL_addOrder 32 = .ok (.ireturn, 1) := by decide +kernel
theorem ct_L_addOrder_1 : oa_ct mL_addOrder 11 "java/lang/IndexOutOfBoundsException" 1 := ⟨[], [(0, 16, 23, 13), (0, 16, 27, 114)], (0, 16, 19, 19), "java/lang/IndexOutOfBoundsException", 7, 21, rfl, (fun _ z => nomatch z), by decide, by decide, gh_1044, (List.mem_of_getElem? (i := 1056) (by decide +kernel)), by decide, Or.inr ⟨dL_addOrder_19, rfl⟩, ⟨1, dL_addOrder_21, by decide⟩, dL_addOrder_22, rfl⟩
theorem ct_L_addOrder_2 : oa_ct mL_addOrder 11 "java/lang/IllegalArgumentException" 2 := ⟨[(0, 16, 19, 19)], [(0, 16, 27, 114)], (0, 16, 23, 13), "java/lang/IllegalArgumentException", 7, 25, rfl, (List.forall_mem_cons.mpr ⟨⟨by decide, "java/lang/IndexOutOfBoundsException", gh_1044, List.mem_of_getElem? (i := 0) rfl⟩, (fun _ z => nomatch z)⟩), by decide, by decide, gh_738, (List.mem_of_getElem? (i := 964) (by decide +kernel)), by decide, Or.inr ⟨dL_addOrder_23, rfl⟩, ⟨2, dL_addOrder_25, by decide⟩, dL_addOrder_26, rfl⟩
theorem ct_L_addOrder_3 : oa_ct mL_addOrder 11 "java/lang/IllegalStateException" 3 := ⟨[(0, 16, 19, 19), (0, 16, 23, 13)], [], (0, 16, 27, 114), "java/lang/IllegalStateException", 7, 29, rfl, (List.forall_mem_cons.mpr ⟨⟨by decide, "java/lang/IndexOutOfBoundsException", gh_1044, List.mem_of_getElem? (i := 1) rfl⟩, (List.forall_mem_cons.mpr ⟨⟨by decide, "java/lang/IllegalArgumentException", gh_738, List.mem_of_getElem? (i := 2) rfl⟩, (fun _ z => nomatch z)⟩)⟩), by decide, by decide, gh_1372, (List.mem_of_getElem? (i := 1382) (by decide +kernel)), by decide, Or.inr ⟨dL_addOrder_27, rfl⟩, ⟨3, dL_addOrder_29, by decide⟩, dL_addOrder_30, rfl⟩
theorem ch_L_addOrder {d k : Nat} {h : Hp} {a1 a2 a3 a4 a5 : Int32} {P : Int32 → Hp → Prop} {Qx : String → Hp → Prop} (hk : k ≤ 1) (cc : CL k d mX11_addOrder [vR 11 0, vI a1, vI a2, vI a3, vI a4, vI a5] h (oI fun r h' => P 0 (hp_l h' 66 0 0 r.toInt64)) (fun E h' => (E = "java/lang/IndexOutOfBoundsException" ∧ P 1 h') ∨ (E = "java/lang/IllegalArgumentException" ∧ P 2 h') ∨ (E = "java/lang/IllegalStateException" ∧ P 3 h'))) : CLH 1 (d + 1) mL_addOrder [vR 11 0, vI a1, vI a2, vI a3, vI a4, vI a5, vR 66 0] h (oI P) Qx := by
  refine CLH.of rfl (Nat.le_of_ble_eq_true rfl) ?_
  refine aw_aload (j := 6) (i := 6) dL_addOrder_0 rfl rfl ?_
  refine aw_iconst (v := 0) dL_addOrder_2 rfl (by decide) ?_
  refine aw_aload_n (j := 0) (i := 0) dL_addOrder_3 rfl rfl rfl ?_
  refine aw_iload_n (j := 1) (i := 1) dL_addOrder_4 rfl rfl rfl ?_
  refine aw_iload_n (j := 2) (i := 2) dL_addOrder_5 rfl rfl rfl ?_
  refine aw_iload_n (j := 3) (i := 3) dL_addOrder_6 rfl rfl rfl ?_
  refine aw_iload (j := 4) (i := 4) dL_addOrder_7 rfl rfl ?_
  refine aw_iload (j := 5) (i := 5) dL_addOrder_9 rfl rfl ?_
  refine aw_callVT (M' := mX11_addOrder) (S := [vI 0, vR 66 0]) (as := [vI a1, vI a2, vI a3, vI a4, vI a5]) (k := k) dL_addOrder_11 rfl (by decide) rfl rfl gh_1373 gh_1374 gh_1375 mb_X11_addOrder hk (Nat.le_of_ble_eq_true rfl) rfl (CL.imp cc (fun v h1 k1 => ?_) (fun E h1 k1 => ?_))
  · obtain ⟨r, rfl, k1⟩ := oI_of k1
    show AW _ (d + 1) (1 - k) mL_addOrder 14 _ [vI r, vI 0, vR 66 0] h1 _ _
    refine aw_i2l dL_addOrder_14 rfl ?_
    refine aw_last dL_addOrder_15 rfl (by decide) rfl oa_in01 ?_
    refine aw_goto 31 dL_addOrder_16 rfl ?_
    refine aw_iconst (v := 0) dL_addOrder_31 rfl (by decide) ?_
    exact aw_iret dL_addOrder_32 rfl k1
  · rcases k1 with ⟨rfl, k1⟩ | ⟨rfl, k1⟩ | ⟨rfl, k1⟩
    · exact ⟨1, ct_L_addOrder_1, k1⟩
    · exact ⟨2, ct_L_addOrder_2, k1⟩
    · exact ⟨3, ct_L_addOrder_3, k1⟩
theorem mb_L_addOrder : oa_MBH mL_addOrder 7 := ⟨gh_1371, gh_85, ⟨by decide +kernel, by decide +kernel⟩, by decide +kernel, by decide⟩
theorem dL_cancel_0 : decode cL_cancel 0 = .ok (.aload_n 2, 1) := by decide +kernel
theorem dL_cancel_1 : decode cL_cancel 1 = .ok (.iconst 0, 1) := by decide +kernel
theorem dL_cancel_2 : decode cL_cancel 2 = .ok (.aload_n 0, 1) := by decide +kernel
theorem dL_cancel_3 : decode cL_cancel 3 = .ok (.iload_n 1, 1) := by decide +kernel
theorem dL_cancel_4 : decode cL_cancel 4 = .ok (.invokevirtual 116, 3) := by decide +kernel
theorem dL_cancel_7 : decode cL_cancel 7 = .ok (.i2l, 1) := by decide +kernel
theorem dL_cancel_8 : decode cL_cancel 8 = .ok (.lastore, 1) := by decide +kernel
theorem dL_cancel_9 : decode cL_cancel 9 = .ok (.goto 9, 3) := by decide +kernel
theorem dL_cancel_12 : decode cL_cancel 12 = .ok (.astore_n 3, 1) := by decide +kernel
theorem dL_cancel_13 : decode cL_cancel 13 = .ok (.iconst 1, 1) := by decide +kernel
theorem dL_cancel_14 : decode cL_cancel 14 = .ok (.ireturn, 1) := by decide +kernel
theorem dL_cancel_15 : decode cL_cancel 15 = .ok (.astore_n 3, 1) := by decide +kernel
theorem dL_cancel_16 : decode cL_cancel 16 = .ok (.iconst 2, 1) := by decide +kernel
theorem dL_cancel_17 : decode cL_cancel 17 = .ok (.ireturn, 1) := by decide +kernel
theorem dL_cancel_18 : decode cL_cancel 18 = .ok (.iconst 0, 1) := by decide +kernel
theorem dL_cancel_19 : decode cL_cancel 19 = .ok (.ireturn, 1) := by decide +kernel
theorem ct_L_cancel_1 : oa_ct mL_cancel 4 "java/lang/IndexOutOfBoundsException" 1 := ⟨[], [(0, 9, 15, 114)], (0, 9, 12, 19), "java/lang/IndexOutOfBoundsException", 3, 13, rfl, (fun _ z => nomatch z), by decide, by decide, gh_1044, (List.mem_of_getElem? (i := 1056) (by decide +kernel)), by decide, Or.inl ⟨3, rfl, dL_cancel_12, rfl⟩, ⟨1, dL_cancel_13, by decide⟩, dL_cancel_14, rfl⟩
theorem ct_L_cancel_2 : oa_ct mL_cancel 4 "java/lang/IllegalStateException" 2 := ⟨[(0, 9, 12, 19)], [], (0, 9, 15, 114), "java/lang/IllegalStateException", 3, 16, rfl, (List.forall_mem_cons.mpr ⟨⟨by decide, "java/lang/IndexOutOfBoundsException", gh_1044, List.mem_of_getElem? (i := 1) rfl⟩, (fun _ z => nomatch z)⟩), by decide, by decide, gh_1372, (List.mem_of_getElem? (i := 1382) (by decide +kernel)), by decide, Or.inl ⟨3, rfl, dL_cancel_15, rfl⟩, ⟨2, dL_cancel_16, by decide⟩, dL_cancel_17, rfl⟩
theorem ch_L_cancel {d k : Nat} {h : Hp} {a1 : Int32} {P : Int32 → Hp → Prop} {Qx : String → Hp → Prop} (hk : k ≤ 1) (cc : CL k d mX11_cancel [vR 11 0, vI a1] h (oI fun r h' => P 0 (hp_l h' 66 0 0 r.toInt64)) (fun E h' => (E = "java/lang/IndexOutOfBoundsException" ∧ P 1 h') ∨ (E = "java/lang/IllegalStateException" ∧ P 2 h'))) : CLH 1 (d + 1) mL_cancel [vR 11 0, vI a1, vR 66 0] h (oI P) Qx := by
  refine CLH.of rfl (Nat.le_of_ble_eq_true rfl) ?_
  refine aw_aload_n (j := 2) (i := 2) dL_cancel_0 rfl rfl rfl ?_
  refine aw_iconst (v := 0) dL_cancel_1 rfl (by decide) ?_
  refine aw_aload_n (j := 0) (i := 0) dL_cancel_2 rfl rfl rfl ?_
  refine aw_iload_n (j := 1) (i := 1) dL_cancel_3 rfl rfl rfl ?_
  refine aw_callVT (M' := mX11_cancel) (S := [vI 0, vR 66 0]) (as := [vI a1]) (k := k) dL_cancel_4 rfl (by decide) rfl rfl gh_1400 gh_1401 gh_1402 mb_X11_cancel hk (Nat.le_of_ble_eq_true rfl) rfl (CL.imp cc (fun v h1 k1 => ?_) (fun E h1 k1 => ?_))
  · obtain ⟨r, rfl, k1⟩ := oI_of k1
    show AW _ (d + 1) (1 - k) mL_cancel 7 _ [vI r, vI 0, vR 66 0] h1 _ _
    refine aw_i2l dL_cancel_7 rfl ?_
    refine aw_last dL_cancel_8 rfl (by decide) rfl oa_in01 ?_
    refine aw_goto 18 dL_cancel_9 rfl ?_
    refine aw_iconst (v := 0) dL_cancel_18 rfl (by decide) ?_
    exact aw_iret dL_cancel_19 rfl k1
  · rcases k1 with ⟨rfl, k1⟩ | ⟨rfl, k1⟩
    · exact ⟨1, ct_L_cancel_1, k1⟩
    · exact ⟨2, ct_L_cancel_2, k1⟩
theorem mb_L_cancel : oa_MBH mL_cancel 3 := ⟨gh_1399, gh_85, ⟨by decide +kernel, by decide +kernel⟩, by decide +kernel, by decide⟩
theorem dL_reserve_0 : decode cL_reserve 0 = .ok (.aload_n 3, 1) := by decide +kernel
theorem dL_reserve_1 : decode cL_reserve 1 = .ok (.iconst 0, 1) := by decide +kernel
theorem dL_reserve_2 : decode cL_reserve 2 = .ok (.aload_n 0, 1) := by decide +kernel
theorem dL_reserve_3 : decode cL_reserve 3 = .ok (.iload_n 1, 1) := by decide +kernel
theorem dL_reserve_4 : decode cL_reserve 4 = .ok (.iload_n 2, 1) := by decide +kernel
theorem dL_reserve_5 : decode cL_reserve 5 = .ok (.invokevirtual 119, 3) := by decide +kernel
theorem dL_reserve_8 : decode cL_reserve 8 = .ok (.i2l, 1) := by decide +kernel
theorem dL_reserve_9 : decode cL_reserve 9 = .ok (.lastore, 1) := by decide +kernel
theorem dL_reserve_10 : decode cL_reserve 10 = .ok (.goto 15, 3) := by decide +kernel
theorem dL_reserve_13 : decode cL_reserve 13 = .ok (.astore 4, 2) := by decide +kernel
theorem dL_reserve_15 : decode cL_reserve 15 = .ok (.iconst 1, 1) := by decide +kernel
theorem dL_reserve_16 : decode cL_reserve 16 = .ok (.ireturn, 1) := by decide +kernel
theorem dL_reserve_17 : decode cL_reserve 17 = .ok (.astore 4, 2) := by decide +kernel
theorem dL_reserve_19 : decode cL_reserve 19 = .ok (.iconst 2, 1) := by decide +kernel
theorem dL_reserve_20 : decode cL_reserve 20 = .ok (.ireturn, 1) := by decide +kernel
theorem dL_reserve_21 : decode cL_reserve 21 = .ok (.astore 4, 2) := by decide +kernel
theorem dL_reserve_23 : decode cL_reserve 23 = .ok (.iconst 3, 1) := by decide +kernel
theorem dL_reserve_24 : decode cL_reserve 24 = .ok (.ireturn, 1) := by decide +kernel
theorem dL_reserve_25 : decode cL_reserve 25 = .ok (.iconst 0, 1) := by decide +kernel
theorem dL_reserve_26 : decode cL_reserve 26 = .ok (.ireturn, 1) := by decide +kernel
theorem ct_L_reserve_1 : oa_ct mL_reserve 5 "java/lang/IndexOutOfBoundsException" 1 := ⟨[], [(0, 10, 17, 13), (0, 10, 21, 114)], (0, 10, 13, 19), "java/lang/IndexOutOfBoundsException", 4, 15, rfl, (fun _ z => nomatch z), by decide, by decide, gh_1044, (List.mem_of_getElem? (i := 1056) (by decide +kernel)), by decide, Or.inr ⟨dL_reserve_13, rfl⟩, ⟨1, dL_reserve_15, by decide⟩, dL_reserve_16, rfl⟩
theorem ct_L_reserve_2 : oa_ct mL_reserve 5 "java/lang/IllegalArgumentException" 2 := ⟨[(0, 10, 13, 19)], [(0, 10, 21, 114)], (0, 10, 17, 13), "java/lang/IllegalArgumentException", 4, 19, rfl, (List.forall_mem_cons.mpr ⟨⟨by decide, "java/lang/IndexOutOfBoundsException", gh_1044, List.mem_of_getElem? (i := 0) rfl⟩, (fun _ z => nomatch z)⟩), by decide, by decide, gh_738, (List.mem_of_getElem? (i := 964) (by decide +kernel)), by decide, Or.inr ⟨dL_reserve_17, rfl⟩, ⟨2, dL_reserve_19, by decide⟩, dL_reserve_20, rfl⟩
theorem ct_L_reserve_3 : oa_ct mL_reserve 5 "java/lang/IllegalStateException" 3 := ⟨[(0, 10, 13, 19), (0, 10, 17, 13)], [], (0, 10, 21, 114), "java/lang/IllegalStateException", 4, 23, rfl, (List.forall_mem_cons.mpr ⟨⟨by decide, "java/lang/IndexOutOfBoundsException", gh_1044, List.mem_of_getElem? (i := 1) rfl⟩, (List.forall_mem_cons.mpr ⟨⟨by decide, "java/lang/IllegalArgumentException", gh_738, List.mem_of_getElem? (i := 2) rfl⟩, (fun _ z => nomatch z)⟩)⟩), by decide, by decide, gh_1372, (List.mem_of_getElem? (i := 1382) (by decide +kernel)), by decide, Or.inr ⟨dL_reserve_21, rfl⟩, ⟨3, dL_reserve_23, by decide⟩, dL_reserve_24, rfl⟩
theorem ch_L_reserve {d k : Nat} {h : Hp} {a1 a2 : Int32} {P : Int32 → Hp → Prop} {Qx : String → Hp → Prop} (hk : k ≤ 1) (cc : CL k d mX11_reserve [vR 11 0, vI a1, vI a2] h (oI fun r h' => P 0 (hp_l h' 66 0 0 r.toInt64)) (fun E h' => (E = "java/lang/IndexOutOfBoundsException" ∧ P 1 h') ∨ (E = "java/lang/IllegalArgumentException" ∧ P 2 h') ∨ (E = "java/lang/IllegalStateException" ∧ P 3 h'))) : CLH 1 (d + 1) mL_reserve [vR 11 0, vI a1, vI a2, vR 66 0] h (oI P) Qx := by
  refine CLH.of rfl (Nat.le_of_ble_eq_true rfl) ?_
  refine aw_aload_n (j := 3) (i := 3) dL_reserve_0 rfl rfl rfl ?_
  refine aw_iconst (v := 0) dL_reserve_1 rfl (by decide) ?_
  refine aw_aload_n (j := 0) (i := 0) dL_reserve_2 rfl rfl rfl ?_
  refine aw_iload_n (j := 1) (i := 1) dL_reserve_3 rfl rfl rfl ?_
  refine aw_iload_n (j := 2) (i := 2) dL_reserve_4 rfl rfl rfl ?_
  refine aw_callVT (M' := mX11_reserve) (S := [vI 0, vR 66 0]) (as := [vI a1, vI a2]) (k := k) dL_reserve_5 rfl (by decide) rfl rfl gh_1411 gh_1412 gh_1413 mb_X11_reserve hk (Nat.le_of_ble_eq_true rfl) rfl (CL.imp cc (fun v h1 k1 => ?_) (fun E h1 k1 => ?_))
  · obtain ⟨r, rfl, k1⟩ := oI_of k1
    show AW _ (d + 1) (1 - k) mL_reserve 8 _ [vI r, vI 0, vR 66 0] h1 _ _
    refine aw_i2l dL_reserve_8 rfl ?_
    refine aw_last dL_reserve_9 rfl (by decide) rfl oa_in01 ?_
    refine aw_goto 25 dL_reserve_10 rfl ?_
    refine aw_iconst (v := 0) dL_reserve_25 rfl (by decide) ?_
    exact aw_iret dL_reserve_26 rfl k1
  · rcases k1 with ⟨rfl, k1⟩ | ⟨rfl, k1⟩ | ⟨rfl, k1⟩
    · exact ⟨1, ct_L_reserve_1, k1⟩
    · exact ⟨2, ct_L_reserve_2, k1⟩
    · exact ⟨3, ct_L_reserve_3, k1⟩
theorem mb_L_reserve : oa_MBH mL_reserve 4 := ⟨gh_1410, gh_85, ⟨by decide +kernel, by decide +kernel⟩, by decide +kernel, by decide⟩
theorem dL_release_0 : decode cL_release 0 = .ok (.aload_n 3, 1) := by decide +kernel
theorem dL_release_1 : decode cL_release 1 = .ok (.iconst 0, 1) := by decide +kernel
theorem dL_release_2 : decode cL_release 2 = .ok (.aload_n 0, 1) := by decide +kernel
theorem dL_release_3 : decode cL_release 3 = .ok (.iload_n 1, 1) := by decide +kernel
theorem dL_release_4 : decode cL_release 4 = .ok (.iload_n 2, 1) := by decide +kernel
theorem dL_release_5 : decode cL_release 5 = .ok (.invokevirtual 122, 3) := by decide +kernel
theorem dL_release_8 : decode cL_release 8 = .ok (.i2l, 1) := by decide +kernel
theorem dL_release_9 : decode cL_release 9 = .ok (.lastore, 1) := by decide +kernel
theorem dL_release_10 : decode cL_release 10 = .ok (.goto 15, 3) := by decide +kernel
theorem dL_release_13 : decode cL_release 13 = .ok (.astore 4, 2) := by decide +kernel
theorem dL_release_15 : decode cL_release 15 = .ok (.iconst 1, 1) := by decide +kernel
theorem dL_release_16 : decode cL_release 16 = .ok (.ireturn, 1) := by decide +kernel
theorem dL_release_17 : decode cL_release 17 = .ok (.astore 4, 2) := by decide +kernel
theorem dL_release_19 : decode cL_release 19 = .ok (.iconst 2, 1) := by decide +kernel
theorem dL_release_20 : decode cL_release 20 = .ok (.ireturn, 1) := by decide +kernel
theorem dL_release_21 : decode cL_release 21 = .ok (.astore 4, 2) := by decide +kernel
theorem dL_release_23 : decode cL_release 23 = .ok (.iconst 3, 1) := by decide +kernel
theorem dL_release_24 : decode cL_release 24 = .ok (.ireturn, 1) := by decide +kernel
theorem dL_release_25 : decode cL_release 25 = .ok (.iconst 0, 1) := by decide +kernel
theorem dL_release_26 : decode cL_release 26 = .ok (.ireturn, 1) := by decide +kernel
theorem ct_L_release_1 : oa_ct mL_release 5 "java/lang/IndexOutOfBoundsException" 1 := ⟨[], [(0, 10, 17, 13), (0, 10, 21, 114)], (0, 10, 13, 19), "java/lang/IndexOutOfBoundsException", 4, 15, rfl, (fun _ z => nomatch z), by decide, by decide, gh_1044, (List.mem_of_getElem? (i := 1056) (by decide +kernel)), by decide, Or.inr ⟨dL_release_13, rfl⟩, ⟨1, dL_release_15, by decide⟩, dL_release_16, rfl⟩
theorem ct_L_release_2 : oa_ct mL_release 5 "java/lang/IllegalArgumentException" 2 := ⟨[(0, 10, 13, 19)], [(0, 10, 21, 114)], (0, 10, 17, 13), "java/lang/IllegalArgumentException", 4, 19, rfl, (List.forall_mem_cons.mpr ⟨⟨by decide, "java/lang/IndexOutOfBoundsException", gh_1044, List.mem_of_getElem? (i := 0) rfl⟩, (fun _ z => nomatch z)⟩), by decide, by decide, gh_738, (List.mem_of_getElem? (i := 964) (by decide +kernel)), by decide, Or.inr ⟨dL_release_17, rfl⟩, ⟨2, dL_release_19, by decide⟩, dL_release_20, rfl⟩
theorem ct_L_release_3 : oa_ct mL_release 5 "java/lang/IllegalStateException" 3 := ⟨[(0, 10, 13, 19), (0, 10, 17, 13)], [], (0, 10, 21, 114), "java/lang/IllegalStateException", 4, 23, rfl, (List.forall_mem_cons.mpr ⟨⟨by decide, "java/lang/IndexOutOfBoundsException", gh_1044, List.mem_of_getElem? (i := 1) rfl⟩, (List.forall_mem_cons.mpr ⟨⟨by decide, "java/lang/IllegalArgumentException", gh_738, List.mem_of_getElem? (i := 2) rfl⟩, (fun _ z => nomatch z)⟩)⟩), by decide, by decide, gh_1372, (List.mem_of_getElem? (i := 1382) (by decide +kernel)), by decide, Or.inr ⟨dL_release_21, rfl⟩, ⟨3, dL_release_23, by decide⟩, dL_release_24, rfl⟩
theorem ch_L_release {d k : Nat} {h : Hp} {a1 a2 : Int32} {P : Int32 → Hp → Prop} {Qx : String → Hp → Prop} (hk : k ≤ 1) (cc : CL k d mX11_release [vR 11 0, vI a1, vI a2] h (oI fun r h' => P 0 (hp_l h' 66 0 0 r.toInt64)) (fun E h' => (E = "java/lang/IndexOutOfBoundsException" ∧ P 1 h') ∨ (E = "java/lang/IllegalArgumentException" ∧ P 2 h') ∨ (E = "java/lang/IllegalStateException" ∧ P 3 h'))) : CLH 1 (d + 1) mL_release [vR 11 0, vI a1, vI a2, vR 66 0] h (oI P) Qx := by
  refine CLH.of rfl (Nat.le_of_ble_eq_true rfl) ?_
  refine aw_aload_n (j := 3) (i := 3) dL_release_0 rfl rfl rfl ?_
  refine aw_iconst (v := 0) dL_release_1 rfl (by decide) ?_
  refine aw_aload_n (j := 0) (i := 0) dL_release_2 rfl rfl rfl ?_
  refine aw_iload_n (j := 1) (i := 1) dL_release_3 rfl rfl rfl ?_
  refine aw_iload_n (j := 2) (i := 2) dL_release_4 rfl rfl rfl ?_
  refine aw_callVT (M' := mX11_release) (S := [vI 0, vR 66 0]) (as := [vI a1, vI a2]) (k := k) dL_release_5 rfl (by decide) rfl rfl gh_1424 gh_1425 gh_1426 mb_X11_release hk (Nat.le_of_ble_eq_true rfl) rfl (CL.imp cc (fun v h1 k1 => ?_) (fun E h1 k1 => ?_))
  · obtain ⟨r, rfl, k1⟩ := oI_of k1
    show AW _ (d + 1) (1 - k) mL_release 8 _ [vI r, vI 0, vR 66 0] h1 _ _
    refine aw_i2l dL_release_8 rfl ?_
    refine aw_last dL_release_9 rfl (by decide) rfl oa_in01 ?_
    refine aw_goto 25 dL_release_10 rfl ?_
    refine aw_iconst (v := 0) dL_release_25 rfl (by decide) ?_
    exact aw_iret dL_release_26 rfl k1
  · rcases k1 with ⟨rfl, k1⟩ | ⟨rfl, k1⟩ | ⟨rfl, k1⟩
    · exact ⟨1, ct_L_release_1, k1⟩
    · exact ⟨2, ct_L_release_2, k1⟩
    · exact ⟨3, ct_L_release_3, k1⟩
theorem mb_L_release : oa_MBH mL_release 4 := ⟨gh_1423, gh_85, ⟨by decide +kernel, by decide +kernel⟩, by decide +kernel, by decide⟩
theorem dL_ship_0 : decode cL_ship 0 = .ok (.aload_n 2, 1) := by decide +kernel
theorem dL_ship_1 : decode cL_ship 1 = .ok (.iconst 0, 1) := by decide +kernel
theorem dL_ship_2 : decode cL_ship 2 = .ok (.aload_n 0, 1) := by decide +kernel
theorem dL_ship_3 : decode cL_ship 3 = .ok (.iload_n 1, 1) := by decide +kernel
theorem dL_ship_4 : decode cL_ship 4 = .ok (.invokevirtual 125, 3) := by decide +kernel
theorem dL_ship_7 : decode cL_ship 7 = .ok (.i2l, 1) := by decide +kernel
theorem dL_ship_8 : decode cL_ship 8 = .ok (.lastore, 1) := by decide +kernel
theorem dL_ship_9 : decode cL_ship 9 = .ok (.goto 9, 3) := by decide +kernel
theorem dL_ship_12 : decode cL_ship 12 = .ok (.astore_n 3, 1) := by decide +kernel
theorem dL_ship_13 : decode cL_ship 13 = .ok (.iconst 1, 1) := by decide +kernel
theorem dL_ship_14 : decode cL_ship 14 = .ok (.ireturn, 1) := by decide +kernel
theorem dL_ship_15 : decode cL_ship 15 = .ok (.astore_n 3, 1) := by decide +kernel
theorem dL_ship_16 : decode cL_ship 16 = .ok (.iconst 2, 1) := by decide +kernel
theorem dL_ship_17 : decode cL_ship 17 = .ok (.ireturn, 1) := by decide +kernel
theorem dL_ship_18 : decode cL_ship 18 = .ok (.iconst 0, 1) := by decide +kernel
theorem dL_ship_19 : decode cL_ship 19 = .ok (.ireturn, 1) := by decide +kernel
theorem ct_L_ship_1 : oa_ct mL_ship 4 "java/lang/IndexOutOfBoundsException" 1 := ⟨[], [(0, 9, 15, 114)], (0, 9, 12, 19), "java/lang/IndexOutOfBoundsException", 3, 13, rfl, (fun _ z => nomatch z), by decide, by decide, gh_1044, (List.mem_of_getElem? (i := 1056) (by decide +kernel)), by decide, Or.inl ⟨3, rfl, dL_ship_12, rfl⟩, ⟨1, dL_ship_13, by decide⟩, dL_ship_14, rfl⟩
theorem ct_L_ship_2 : oa_ct mL_ship 4 "java/lang/IllegalStateException" 2 := ⟨[(0, 9, 12, 19)], [], (0, 9, 15, 114), "java/lang/IllegalStateException", 3, 16, rfl, (List.forall_mem_cons.mpr ⟨⟨by decide, "java/lang/IndexOutOfBoundsException", gh_1044, List.mem_of_getElem? (i := 1) rfl⟩, (fun _ z => nomatch z)⟩), by decide, by decide, gh_1372, (List.mem_of_getElem? (i := 1382) (by decide +kernel)), by decide, Or.inl ⟨3, rfl, dL_ship_15, rfl⟩, ⟨2, dL_ship_16, by decide⟩, dL_ship_17, rfl⟩
theorem ch_L_ship {d k : Nat} {h : Hp} {a1 : Int32} {P : Int32 → Hp → Prop} {Qx : String → Hp → Prop} (hk : k ≤ 1) (cc : CL k d mX11_ship [vR 11 0, vI a1] h (oI fun r h' => P 0 (hp_l h' 66 0 0 r.toInt64)) (fun E h' => (E = "java/lang/IndexOutOfBoundsException" ∧ P 1 h') ∨ (E = "java/lang/IllegalStateException" ∧ P 2 h'))) : CLH 1 (d + 1) mL_ship [vR 11 0, vI a1, vR 66 0] h (oI P) Qx := by
  refine CLH.of rfl (Nat.le_of_ble_eq_true rfl) ?_
  refine aw_aload_n (j := 2) (i := 2) dL_ship_0 rfl rfl rfl ?_
  refine aw_iconst (v := 0) dL_ship_1 rfl (by decide) ?_
  refine aw_aload_n (j := 0) (i := 0) dL_ship_2 rfl rfl rfl ?_
  refine aw_iload_n (j := 1) (i := 1) dL_ship_3 rfl rfl rfl ?_
  refine aw_callVT (M' := mX11_ship) (S := [vI 0, vR 66 0]) (as := [vI a1]) (k := k) dL_ship_4 rfl (by decide) rfl rfl gh_1431 gh_1432 gh_1433 mb_X11_ship hk (Nat.le_of_ble_eq_true rfl) rfl (CL.imp cc (fun v h1 k1 => ?_) (fun E h1 k1 => ?_))
  · obtain ⟨r, rfl, k1⟩ := oI_of k1
    show AW _ (d + 1) (1 - k) mL_ship 7 _ [vI r, vI 0, vR 66 0] h1 _ _
    refine aw_i2l dL_ship_7 rfl ?_
    refine aw_last dL_ship_8 rfl (by decide) rfl oa_in01 ?_
    refine aw_goto 18 dL_ship_9 rfl ?_
    refine aw_iconst (v := 0) dL_ship_18 rfl (by decide) ?_
    exact aw_iret dL_ship_19 rfl k1
  · rcases k1 with ⟨rfl, k1⟩ | ⟨rfl, k1⟩
    · exact ⟨1, ct_L_ship_1, k1⟩
    · exact ⟨2, ct_L_ship_2, k1⟩
theorem mb_L_ship : oa_MBH mL_ship 3 := ⟨gh_1430, gh_85, ⟨by decide +kernel, by decide +kernel⟩, by decide +kernel, by decide⟩
theorem dL_buy_0 : decode cL_buy 0 = .ok (.aload_n 3, 1) := by decide +kernel
theorem dL_buy_1 : decode cL_buy 1 = .ok (.iconst 0, 1) := by decide +kernel
theorem dL_buy_2 : decode cL_buy 2 = .ok (.aload_n 0, 1) := by decide +kernel
theorem dL_buy_3 : decode cL_buy 3 = .ok (.iload_n 1, 1) := by decide +kernel
theorem dL_buy_4 : decode cL_buy 4 = .ok (.iload_n 2, 1) := by decide +kernel
theorem dL_buy_5 : decode cL_buy 5 = .ok (.invokevirtual 128, 3) := by decide +kernel
theorem dL_buy_8 : decode cL_buy 8 = .ok (.i2l, 1) := by decide +kernel
theorem dL_buy_9 : decode cL_buy 9 = .ok (.lastore, 1) := by decide +kernel
theorem dL_buy_10 : decode cL_buy 10 = .ok (.goto 15, 3) := by decide +kernel
theorem dL_buy_13 : decode cL_buy 13 = .ok (.astore 4, 2) := by decide +kernel
theorem dL_buy_15 : decode cL_buy 15 = .ok (.iconst 1, 1) := by decide +kernel
theorem dL_buy_16 : decode cL_buy 16 = .ok (.ireturn, 1) := by decide +kernel
theorem dL_buy_17 : decode cL_buy 17 = .ok (.astore 4, 2) := by decide +kernel
theorem dL_buy_19 : decode cL_buy 19 = .ok (.iconst 2, 1) := by decide +kernel
theorem dL_buy_20 : decode cL_buy 20 = .ok (.ireturn, 1) := by decide +kernel
theorem dL_buy_21 : decode cL_buy 21 = .ok (.astore 4, 2) := by decide +kernel
theorem dL_buy_23 : decode cL_buy 23 = .ok (.iconst 3, 1) := by decide +kernel
theorem dL_buy_24 : decode cL_buy 24 = .ok (.ireturn, 1) := by decide +kernel
theorem dL_buy_25 : decode cL_buy 25 = .ok (.iconst 0, 1) := by decide +kernel
theorem dL_buy_26 : decode cL_buy 26 = .ok (.ireturn, 1) := by decide +kernel
theorem ct_L_buy_1 : oa_ct mL_buy 5 "java/lang/IndexOutOfBoundsException" 1 := ⟨[], [(0, 10, 17, 13), (0, 10, 21, 114)], (0, 10, 13, 19), "java/lang/IndexOutOfBoundsException", 4, 15, rfl, (fun _ z => nomatch z), by decide, by decide, gh_1044, (List.mem_of_getElem? (i := 1056) (by decide +kernel)), by decide, Or.inr ⟨dL_buy_13, rfl⟩, ⟨1, dL_buy_15, by decide⟩, dL_buy_16, rfl⟩
theorem ct_L_buy_2 : oa_ct mL_buy 5 "java/lang/IllegalArgumentException" 2 := ⟨[(0, 10, 13, 19)], [(0, 10, 21, 114)], (0, 10, 17, 13), "java/lang/IllegalArgumentException", 4, 19, rfl, (List.forall_mem_cons.mpr ⟨⟨by decide, "java/lang/IndexOutOfBoundsException", gh_1044, List.mem_of_getElem? (i := 0) rfl⟩, (fun _ z => nomatch z)⟩), by decide, by decide, gh_738, (List.mem_of_getElem? (i := 964) (by decide +kernel)), by decide, Or.inr ⟨dL_buy_17, rfl⟩, ⟨2, dL_buy_19, by decide⟩, dL_buy_20, rfl⟩
theorem ct_L_buy_3 : oa_ct mL_buy 5 "java/lang/IllegalStateException" 3 := ⟨[(0, 10, 13, 19), (0, 10, 17, 13)], [], (0, 10, 21, 114), "java/lang/IllegalStateException", 4, 23, rfl, (List.forall_mem_cons.mpr ⟨⟨by decide, "java/lang/IndexOutOfBoundsException", gh_1044, List.mem_of_getElem? (i := 1) rfl⟩, (List.forall_mem_cons.mpr ⟨⟨by decide, "java/lang/IllegalArgumentException", gh_738, List.mem_of_getElem? (i := 2) rfl⟩, (fun _ z => nomatch z)⟩)⟩), by decide, by decide, gh_1372, (List.mem_of_getElem? (i := 1382) (by decide +kernel)), by decide, Or.inr ⟨dL_buy_21, rfl⟩, ⟨3, dL_buy_23, by decide⟩, dL_buy_24, rfl⟩
theorem ch_L_buy {d k : Nat} {h : Hp} {a1 a2 : Int32} {P : Int32 → Hp → Prop} {Qx : String → Hp → Prop} (hk : k ≤ 1) (cc : CL k d mX11_buy [vR 11 0, vI a1, vI a2] h (oI fun r h' => P 0 (hp_l h' 66 0 0 r.toInt64)) (fun E h' => (E = "java/lang/IndexOutOfBoundsException" ∧ P 1 h') ∨ (E = "java/lang/IllegalArgumentException" ∧ P 2 h') ∨ (E = "java/lang/IllegalStateException" ∧ P 3 h'))) : CLH 1 (d + 1) mL_buy [vR 11 0, vI a1, vI a2, vR 66 0] h (oI P) Qx := by
  refine CLH.of rfl (Nat.le_of_ble_eq_true rfl) ?_
  refine aw_aload_n (j := 3) (i := 3) dL_buy_0 rfl rfl rfl ?_
  refine aw_iconst (v := 0) dL_buy_1 rfl (by decide) ?_
  refine aw_aload_n (j := 0) (i := 0) dL_buy_2 rfl rfl rfl ?_
  refine aw_iload_n (j := 1) (i := 1) dL_buy_3 rfl rfl rfl ?_
  refine aw_iload_n (j := 2) (i := 2) dL_buy_4 rfl rfl rfl ?_
  refine aw_callVT (M' := mX11_buy) (S := [vI 0, vR 66 0]) (as := [vI a1, vI a2]) (k := k) dL_buy_5 rfl (by decide) rfl rfl gh_1455 gh_1456 gh_1457 mb_X11_buy hk (Nat.le_of_ble_eq_true rfl) rfl (CL.imp cc (fun v h1 k1 => ?_) (fun E h1 k1 => ?_))
  · obtain ⟨r, rfl, k1⟩ := oI_of k1
    show AW _ (d + 1) (1 - k) mL_buy 8 _ [vI r, vI 0, vR 66 0] h1 _ _
    refine aw_i2l dL_buy_8 rfl ?_
    refine aw_last dL_buy_9 rfl (by decide) rfl oa_in01 ?_
    refine aw_goto 25 dL_buy_10 rfl ?_
    refine aw_iconst (v := 0) dL_buy_25 rfl (by decide) ?_
    exact aw_iret dL_buy_26 rfl k1
  · rcases k1 with ⟨rfl, k1⟩ | ⟨rfl, k1⟩ | ⟨rfl, k1⟩
    · exact ⟨1, ct_L_buy_1, k1⟩
    · exact ⟨2, ct_L_buy_2, k1⟩
    · exact ⟨3, ct_L_buy_3, k1⟩
theorem mb_L_buy : oa_MBH mL_buy 4 := ⟨gh_1454, gh_85, ⟨by decide +kernel, by decide +kernel⟩, by decide +kernel, by decide⟩
theorem dL_adjust_0 : decode cL_adjust 0 = .ok (.aload_n 3, 1) := by decide +kernel
theorem dL_adjust_1 : decode cL_adjust 1 = .ok (.iconst 0, 1) := by decide +kernel
theorem dL_adjust_2 : decode cL_adjust 2 = .ok (.aload_n 0, 1) := by decide +kernel
theorem dL_adjust_3 : decode cL_adjust 3 = .ok (.iload_n 1, 1) := by decide +kernel
theorem dL_adjust_4 : decode cL_adjust 4 = .ok (.iload_n 2, 1) := by decide +kernel
theorem dL_adjust_5 : decode cL_adjust 5 = .ok (.invokevirtual 131, 3) := by decide +kernel
theorem dL_adjust_8 : decode cL_adjust 8 = .ok (.i2l, 1) := by decide +kernel
theorem dL_adjust_9 : decode cL_adjust 9 = .ok (.lastore, 1) := by decide +kernel
theorem dL_adjust_10 : decode cL_adjust 10 = .ok (.goto 11, 3) := by decide +kernel
theorem dL_adjust_13 : decode cL_adjust 13 = .ok (.astore 4, 2) := by decide +kernel
theorem dL_adjust_15 : decode cL_adjust 15 = .ok (.iconst 1, 1) := by decide +kernel
theorem dL_adjust_16 : decode cL_adjust 16 = .ok (.ireturn, 1) := by decide +kernel
theorem dL_adjust_17 : decode cL_adjust 17 = .ok (.astore 4, 2) := by decide +kernel
theorem dL_adjust_19 : decode cL_adjust 19 = .ok (.iconst 2, 1) := by decide +kernel
theorem dL_adjust_20 : decode cL_adjust 20 = .ok (.ireturn, 1) := by decide +kernel
theorem dL_adjust_21 : decode cL_adjust 21 = .ok (.iconst 0, 1) := by decide +kernel
theorem dL_adjust_22 : decode cL_adjust 22 = .ok (.ireturn, 1) := by decide +kernel
theorem ct_L_adjust_1 : oa_ct mL_adjust 5 "java/lang/IndexOutOfBoundsException" 1 := ⟨[], [(0, 10, 17, 13)], (0, 10, 13, 19), "java/lang/IndexOutOfBoundsException", 4, 15, rfl, (fun _ z => nomatch z), by decide, by decide, gh_1044, (List.mem_of_getElem? (i := 1056) (by decide +kernel)), by decide, Or.inr ⟨dL_adjust_13, rfl⟩, ⟨1, dL_adjust_15, by decide⟩, dL_adjust_16, rfl⟩
theorem ct_L_adjust_2 : oa_ct mL_adjust 5 "java/lang/IllegalArgumentException" 2 := ⟨[(0, 10, 13, 19)], [], (0, 10, 17, 13), "java/lang/IllegalArgumentException", 4, 19, rfl, (List.forall_mem_cons.mpr ⟨⟨by decide, "java/lang/IndexOutOfBoundsException", gh_1044, List.mem_of_getElem? (i := 0) rfl⟩, (fun _ z => nomatch z)⟩), by decide, by decide, gh_738, (List.mem_of_getElem? (i := 964) (by decide +kernel)), by decide, Or.inr ⟨dL_adjust_17, rfl⟩, ⟨2, dL_adjust_19, by decide⟩, dL_adjust_20, rfl⟩
theorem ch_L_adjust {d k : Nat} {h : Hp} {a1 a2 : Int32} {P : Int32 → Hp → Prop} {Qx : String → Hp → Prop} (hk : k ≤ 1) (cc : CL k d mX11_adjust [vR 11 0, vI a1, vI a2] h (oI fun r h' => P 0 (hp_l h' 66 0 0 r.toInt64)) (fun E h' => (E = "java/lang/IndexOutOfBoundsException" ∧ P 1 h') ∨ (E = "java/lang/IllegalArgumentException" ∧ P 2 h'))) : CLH 1 (d + 1) mL_adjust [vR 11 0, vI a1, vI a2, vR 66 0] h (oI P) Qx := by
  refine CLH.of rfl (Nat.le_of_ble_eq_true rfl) ?_
  refine aw_aload_n (j := 3) (i := 3) dL_adjust_0 rfl rfl rfl ?_
  refine aw_iconst (v := 0) dL_adjust_1 rfl (by decide) ?_
  refine aw_aload_n (j := 0) (i := 0) dL_adjust_2 rfl rfl rfl ?_
  refine aw_iload_n (j := 1) (i := 1) dL_adjust_3 rfl rfl rfl ?_
  refine aw_iload_n (j := 2) (i := 2) dL_adjust_4 rfl rfl rfl ?_
  refine aw_callVT (M' := mX11_adjust) (S := [vI 0, vR 66 0]) (as := [vI a1, vI a2]) (k := k) dL_adjust_5 rfl (by decide) rfl rfl gh_1470 gh_1471 gh_1472 mb_X11_adjust hk (Nat.le_of_ble_eq_true rfl) rfl (CL.imp cc (fun v h1 k1 => ?_) (fun E h1 k1 => ?_))
  · obtain ⟨r, rfl, k1⟩ := oI_of k1
    show AW _ (d + 1) (1 - k) mL_adjust 8 _ [vI r, vI 0, vR 66 0] h1 _ _
    refine aw_i2l dL_adjust_8 rfl ?_
    refine aw_last dL_adjust_9 rfl (by decide) rfl oa_in01 ?_
    refine aw_goto 21 dL_adjust_10 rfl ?_
    refine aw_iconst (v := 0) dL_adjust_21 rfl (by decide) ?_
    exact aw_iret dL_adjust_22 rfl k1
  · rcases k1 with ⟨rfl, k1⟩ | ⟨rfl, k1⟩
    · exact ⟨1, ct_L_adjust_1, k1⟩
    · exact ⟨2, ct_L_adjust_2, k1⟩
theorem mb_L_adjust : oa_MBH mL_adjust 4 := ⟨gh_1469, gh_85, ⟨by decide +kernel, by decide +kernel⟩, by decide +kernel, by decide⟩
theorem dL_advance_0 : decode cL_advance 0 = .ok (.aload_n 2, 1) := by decide +kernel
theorem dL_advance_1 : decode cL_advance 1 = .ok (.iconst 0, 1) := by decide +kernel
theorem dL_advance_2 : decode cL_advance 2 = .ok (.aload_n 0, 1) := by decide +kernel
theorem dL_advance_3 : decode cL_advance 3 = .ok (.iload_n 1, 1) := by decide +kernel
theorem dL_advance_4 : decode cL_advance 4 = .ok (.invokevirtual 134, 3) := by decide +kernel
theorem dL_advance_7 : decode cL_advance 7 = .ok (.i2l, 1) := by decide +kernel
theorem dL_advance_8 : decode cL_advance 8 = .ok (.lastore, 1) := by decide +kernel
theorem dL_advance_9 : decode cL_advance 9 = .ok (.goto 6, 3) := by decide +kernel
theorem dL_advance_12 : decode cL_advance 12 = .ok (.astore_n 3, 1) := by decide +kernel
theorem dL_advance_13 : decode cL_advance 13 = .ok (.iconst 1, 1) := by decide +kernel
theorem dL_advance_14 : decode cL_advance 14 = .ok (.ireturn, 1) := by decide +kernel
theorem dL_advance_15 : decode cL_advance 15 = .ok (.iconst 0, 1) := by decide +kernel
theorem dL_advance_16 : decode cL_advance 16 = .ok (.ireturn, 1) := by decide +kernel
theorem ct_L_advance_1 : oa_ct mL_advance 4 "java/lang/IllegalArgumentException" 1 := ⟨[], [], (0, 9, 12, 13), "java/lang/IllegalArgumentException", 3, 13, rfl, (fun _ z => nomatch z), by decide, by decide, gh_738, (List.mem_of_getElem? (i := 964) (by decide +kernel)), by decide, Or.inl ⟨3, rfl, dL_advance_12, rfl⟩, ⟨1, dL_advance_13, by decide⟩, dL_advance_14, rfl⟩
theorem ch_L_advance {d k : Nat} {h : Hp} {a1 : Int32} {P : Int32 → Hp → Prop} {Qx : String → Hp → Prop} (hk : k ≤ 1) (cc : CL k d mX11_advance [vR 11 0, vI a1] h (oI fun r h' => P 0 (hp_l h' 66 0 0 r.toInt64)) (fun E h' => (E = "java/lang/IllegalArgumentException" ∧ P 1 h'))) : CLH 1 (d + 1) mL_advance [vR 11 0, vI a1, vR 66 0] h (oI P) Qx := by
  refine CLH.of rfl (Nat.le_of_ble_eq_true rfl) ?_
  refine aw_aload_n (j := 2) (i := 2) dL_advance_0 rfl rfl rfl ?_
  refine aw_iconst (v := 0) dL_advance_1 rfl (by decide) ?_
  refine aw_aload_n (j := 0) (i := 0) dL_advance_2 rfl rfl rfl ?_
  refine aw_iload_n (j := 1) (i := 1) dL_advance_3 rfl rfl rfl ?_
  refine aw_callVT (M' := mX11_advance) (S := [vI 0, vR 66 0]) (as := [vI a1]) (k := k) dL_advance_4 rfl (by decide) rfl rfl gh_1494 gh_1495 gh_1496 mb_X11_advance hk (Nat.le_of_ble_eq_true rfl) rfl (CL.imp cc (fun v h1 k1 => ?_) (fun E h1 k1 => ?_))
  · obtain ⟨r, rfl, k1⟩ := oI_of k1
    show AW _ (d + 1) (1 - k) mL_advance 7 _ [vI r, vI 0, vR 66 0] h1 _ _
    refine aw_i2l dL_advance_7 rfl ?_
    refine aw_last dL_advance_8 rfl (by decide) rfl oa_in01 ?_
    refine aw_goto 15 dL_advance_9 rfl ?_
    refine aw_iconst (v := 0) dL_advance_15 rfl (by decide) ?_
    exact aw_iret dL_advance_16 rfl k1
  · obtain ⟨rfl, k1⟩ := k1
    exact ⟨1, ct_L_advance_1, k1⟩
theorem mb_L_advance : oa_MBH mL_advance 3 := ⟨gh_1493, gh_85, ⟨by decide +kernel, by decide +kernel⟩, by decide +kernel, by decide⟩
theorem dL_formatOrder_0 : decode cL_formatOrder 0 = .ok (.aload_n 2, 1) := by decide +kernel
theorem dL_formatOrder_1 : decode cL_formatOrder 1 = .ok (.iconst 0, 1) := by decide +kernel
theorem dL_formatOrder_2 : decode cL_formatOrder 2 = .ok (.aload_n 0, 1) := by decide +kernel
theorem dL_formatOrder_3 : decode cL_formatOrder 3 = .ok (.iload_n 1, 1) := by decide +kernel
theorem dL_formatOrder_4 : decode cL_formatOrder 4 = .ok (.invokevirtual 137, 3) := by decide +kernel
theorem dL_formatOrder_7 : decode cL_formatOrder 7 = .ok (.i2l, 1) := by decide +kernel
theorem dL_formatOrder_8 : decode cL_formatOrder 8 = .ok (.lastore, 1) := by decide +kernel
theorem dL_formatOrder_9 : decode cL_formatOrder 9 = .ok (.goto 6, 3) := by decide +kernel
theorem dL_formatOrder_12 : decode cL_formatOrder 12 = .ok (.astore_n 3, 1) := by decide +kernel
theorem dL_formatOrder_13 : decode cL_formatOrder 13 = .ok (.iconst 1, 1) := by decide +kernel
theorem dL_formatOrder_14 : decode cL_formatOrder 14 = .ok (.ireturn, 1) := by decide +kernel
theorem dL_formatOrder_15 : decode cL_formatOrder 15 = .ok (.iconst 0, 1) := by decide +kernel
theorem dL_formatOrder_16 : decode cL_formatOrder 16 = .ok (.ireturn, 1) := by decide +kernel
theorem ct_L_formatOrder_1 : oa_ct mL_formatOrder 4 "java/lang/IndexOutOfBoundsException" 1 := ⟨[], [], (0, 9, 12, 19), "java/lang/IndexOutOfBoundsException", 3, 13, rfl, (fun _ z => nomatch z), by decide, by decide, gh_1044, (List.mem_of_getElem? (i := 1056) (by decide +kernel)), by decide, Or.inl ⟨3, rfl, dL_formatOrder_12, rfl⟩, ⟨1, dL_formatOrder_13, by decide⟩, dL_formatOrder_14, rfl⟩
theorem ch_L_formatOrder {d k : Nat} {h : Hp} {a1 : Int32} {P : Int32 → Hp → Prop} {Qx : String → Hp → Prop} (hk : k ≤ 1) (cc : CL k d mX11_formatOrder [vR 11 0, vI a1] h (oI fun r h' => P 0 (hp_l h' 66 0 0 r.toInt64)) (fun E h' => (E = "java/lang/IndexOutOfBoundsException" ∧ P 1 h'))) : CLH 1 (d + 1) mL_formatOrder [vR 11 0, vI a1, vR 66 0] h (oI P) Qx := by
  refine CLH.of rfl (Nat.le_of_ble_eq_true rfl) ?_
  refine aw_aload_n (j := 2) (i := 2) dL_formatOrder_0 rfl rfl rfl ?_
  refine aw_iconst (v := 0) dL_formatOrder_1 rfl (by decide) ?_
  refine aw_aload_n (j := 0) (i := 0) dL_formatOrder_2 rfl rfl rfl ?_
  refine aw_iload_n (j := 1) (i := 1) dL_formatOrder_3 rfl rfl rfl ?_
  refine aw_callVT (M' := mX11_formatOrder) (S := [vI 0, vR 66 0]) (as := [vI a1]) (k := k) dL_formatOrder_4 rfl (by decide) rfl rfl gh_1506 gh_1507 gh_1508 mb_X11_formatOrder hk (Nat.le_of_ble_eq_true rfl) rfl (CL.imp cc (fun v h1 k1 => ?_) (fun E h1 k1 => ?_))
  · obtain ⟨r, rfl, k1⟩ := oI_of k1
    show AW _ (d + 1) (1 - k) mL_formatOrder 7 _ [vI r, vI 0, vR 66 0] h1 _ _
    refine aw_i2l dL_formatOrder_7 rfl ?_
    refine aw_last dL_formatOrder_8 rfl (by decide) rfl oa_in01 ?_
    refine aw_goto 15 dL_formatOrder_9 rfl ?_
    refine aw_iconst (v := 0) dL_formatOrder_15 rfl (by decide) ?_
    exact aw_iret dL_formatOrder_16 rfl k1
  · obtain ⟨rfl, k1⟩ := k1
    exact ⟨1, ct_L_formatOrder_1, k1⟩
theorem mb_L_formatOrder : oa_MBH mL_formatOrder 3 := ⟨gh_1505, gh_85, ⟨by decide +kernel, by decide +kernel⟩, by decide +kernel, by decide⟩
theorem dL_formatNeeds_0 : decode cL_formatNeeds 0 = .ok (.aload_n 2, 1) := by decide +kernel
theorem dL_formatNeeds_1 : decode cL_formatNeeds 1 = .ok (.iconst 0, 1) := by decide +kernel
theorem dL_formatNeeds_2 : decode cL_formatNeeds 2 = .ok (.aload_n 0, 1) := by decide +kernel
theorem dL_formatNeeds_3 : decode cL_formatNeeds 3 = .ok (.iload_n 1, 1) := by decide +kernel
theorem dL_formatNeeds_4 : decode cL_formatNeeds 4 = .ok (.invokevirtual 140, 3) := by decide +kernel
theorem dL_formatNeeds_7 : decode cL_formatNeeds 7 = .ok (.i2l, 1) := by decide +kernel
theorem dL_formatNeeds_8 : decode cL_formatNeeds 8 = .ok (.lastore, 1) := by decide +kernel
theorem dL_formatNeeds_9 : decode cL_formatNeeds 9 = .ok (.goto 6, 3) := by decide +kernel
theorem dL_formatNeeds_12 : decode cL_formatNeeds 12 = .ok (.astore_n 3, 1) := by decide +kernel
theorem dL_formatNeeds_13 : decode cL_formatNeeds 13 = .ok (.iconst 1, 1) := by decide +kernel
theorem dL_formatNeeds_14 : decode cL_formatNeeds 14 = .ok (.ireturn, 1) := by decide +kernel
theorem dL_formatNeeds_15 : decode cL_formatNeeds 15 = .ok (.iconst 0, 1) := by decide +kernel
theorem dL_formatNeeds_16 : decode cL_formatNeeds 16 = .ok (.ireturn, 1) := by decide +kernel
theorem ct_L_formatNeeds_1 : oa_ct mL_formatNeeds 4 "java/lang/IndexOutOfBoundsException" 1 := ⟨[], [], (0, 9, 12, 19), "java/lang/IndexOutOfBoundsException", 3, 13, rfl, (fun _ z => nomatch z), by decide, by decide, gh_1044, (List.mem_of_getElem? (i := 1056) (by decide +kernel)), by decide, Or.inl ⟨3, rfl, dL_formatNeeds_12, rfl⟩, ⟨1, dL_formatNeeds_13, by decide⟩, dL_formatNeeds_14, rfl⟩
theorem ch_L_formatNeeds {d k : Nat} {h : Hp} {a1 : Int32} {P : Int32 → Hp → Prop} {Qx : String → Hp → Prop} (hk : k ≤ 1) (cc : CL k d mX11_formatNeeds [vR 11 0, vI a1] h (oI fun r h' => P 0 (hp_l h' 66 0 0 r.toInt64)) (fun E h' => (E = "java/lang/IndexOutOfBoundsException" ∧ P 1 h'))) : CLH 1 (d + 1) mL_formatNeeds [vR 11 0, vI a1, vR 66 0] h (oI P) Qx := by
  refine CLH.of rfl (Nat.le_of_ble_eq_true rfl) ?_
  refine aw_aload_n (j := 2) (i := 2) dL_formatNeeds_0 rfl rfl rfl ?_
  refine aw_iconst (v := 0) dL_formatNeeds_1 rfl (by decide) ?_
  refine aw_aload_n (j := 0) (i := 0) dL_formatNeeds_2 rfl rfl rfl ?_
  refine aw_iload_n (j := 1) (i := 1) dL_formatNeeds_3 rfl rfl rfl ?_
  refine aw_callVT (M' := mX11_formatNeeds) (S := [vI 0, vR 66 0]) (as := [vI a1]) (k := k) dL_formatNeeds_4 rfl (by decide) rfl rfl gh_1549 gh_1550 gh_1551 mb_X11_formatNeeds hk (Nat.le_of_ble_eq_true rfl) rfl (CL.imp cc (fun v h1 k1 => ?_) (fun E h1 k1 => ?_))
  · obtain ⟨r, rfl, k1⟩ := oI_of k1
    show AW _ (d + 1) (1 - k) mL_formatNeeds 7 _ [vI r, vI 0, vR 66 0] h1 _ _
    refine aw_i2l dL_formatNeeds_7 rfl ?_
    refine aw_last dL_formatNeeds_8 rfl (by decide) rfl oa_in01 ?_
    refine aw_goto 15 dL_formatNeeds_9 rfl ?_
    refine aw_iconst (v := 0) dL_formatNeeds_15 rfl (by decide) ?_
    exact aw_iret dL_formatNeeds_16 rfl k1
  · obtain ⟨rfl, k1⟩ := k1
    exact ⟨1, ct_L_formatNeeds_1, k1⟩
theorem mb_L_formatNeeds : oa_MBH mL_formatNeeds 3 := ⟨gh_1548, gh_85, ⟨by decide +kernel, by decide +kernel⟩, by decide +kernel, by decide⟩
