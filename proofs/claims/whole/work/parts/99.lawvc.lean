theorem CLH.imp {k d : Nat} {M : MD} {as : List AV} {h : Hp} {Qr Qr' : Option AV → Hp → Prop} {Qx Qx' : String → Hp → Prop} (c : CLH k d M as h Qr Qx) (h1 : ∀ v h', Qr v h' → Qr' v h') (h2 : ∀ E h', Qx E h' → Qx' E h') : CLH k d M as h Qr' Qx' := by
  intro w l p e ha hc hk s m args below hf happ hP hK
  obtain ⟨n, o, a1, a2, a3, a4⟩ := c w l p e ha hc hk s m args below hf happ hP hK
  refine ⟨n, o, a1, a2, a3, ?_⟩
  rcases a4 with ⟨⟨v, h', c1, c2, c3, c4⟩, c5⟩ | ⟨q, c1, E, ce, LL, ⟨h', c3, c4⟩, c5⟩
  · exact Or.inl ⟨⟨v, h', c1, c2, h1 v h' c3, c4⟩, c5⟩
  · exact Or.inr ⟨q, c1, E, ce, LL, ⟨h', h2 E h' c3, c4⟩, c5⟩
/-- the script lies at tag 2000 -/
def oa_X (nS : Nat) (sc : Nat → Int32) : WD → State → Prop := fun w s => va_X (w.2.2.1 2000 0) nS sc s s.heap ∧ w.2.2.1 2000 0 < s.heap.size ∧ ¬ oa_A w (w.2.2.1 2000 0)
section AWX
variable {nS : Nat} {sc : Nat → Int32} {d rb : Nat} {M : MD} {pc n : Nat} {L : List (Nat × AV)} {S : List AV} {h : Hp} {Qr : Option AV → Hp → Prop} {Qx : String → Hp → Prop}
theorem aw_slenX (hd : decode M.2.1 pc = .ok (.arraylength, 1)) (hn : pc + 1 = n) (k : AW (oa_X nS sc) d rb M n L (vI (Int32.ofNat nS) :: S) h Qr Qx) : AW (oa_X nS sc) d rb M pc L (vR 2000 0 :: S) h Qr Qx := by
  intro w p l e R s m args below meth c mc ms F hX hf hlo hmc hms H locs cells slots ls hc hs hRP hS hl hL hV
  subst hn
  exact va_slen F.1 F.2.1 hX.1 hX.2.1 hX.2.2 hS hd (k w p l e R s m args below meth c mc ms F hX hf hlo hmc hms H locs cells slots ls hc hs hRP hS hl hL (oa_vc trivial (oa_v1 hV)))
theorem aw_sldX {j : Int32} (hd : decode M.2.1 pc = .ok (.iaload, 1)) (hn : pc + 1 = n) (hin : vp_in j nS) (k : AW (oa_X nS sc) d rb M n L (vI (sc j.toNatClampNeg) :: S) h Qr Qx) : AW (oa_X nS sc) d rb M pc L (vI j :: vR 2000 0 :: S) h Qr Qx := by
  intro w p l e R s m args below meth c mc ms F hX hf hlo hmc hms H locs cells slots ls hc hs hRP hS hl hL hV
  subst hn
  exact va_sld F.1 F.2.1 hX.1 hX.2.1 hX.2.2 hS hin hd (k w p l e R s m args below meth c mc ms F hX hf hlo hmc hms H locs cells slots ls hc hs hRP hS hl hL (oa_vc trivial (oa_v1 (oa_v1 hV))))
end AWX
abbrev mL_law : MD := (yL_law, cL_law, 7, (some .boolean), [])
theorem gh_448 : (Cond.methodLink RL 147 yX11_append) ∈ oa_GT := oa_g2 123 rfl rfl
theorem gh_449 : (Cond.instanceMethod yX11_append) ∈ oa_GT := oa_g2 124 rfl rfl
theorem gh_450 : (Cond.selects RX11 yX11_append yX11_append) ∈ oa_GT := oa_g2 125 rfl rfl
theorem gh_463 : (Cond.methodLink RL 152 yX11_truncate) ∈ oa_GT := oa_g2 138 rfl rfl
theorem gh_464 : (Cond.instanceMethod yX11_truncate) ∈ oa_GT := oa_g2 139 rfl rfl
theorem gh_465 : (Cond.selects RX11 yX11_truncate yX11_truncate) ∈ oa_GT := oa_g2 140 rfl rfl
theorem gh_471 : (Cond.methodLink RL 166 yX11_errorOffset) ∈ oa_GT := oa_g2 146 rfl rfl
theorem gh_472 : (Cond.instanceMethod yX11_errorOffset) ∈ oa_GT := oa_g2 147 rfl rfl
theorem gh_473 : (Cond.selects RX11 yX11_errorOffset yX11_errorOffset) ∈ oa_GT := oa_g2 148 rfl rfl
theorem gh_475 : (Cond.methodLink RL 170 yX11_errorKind) ∈ oa_GT := oa_g2 150 rfl rfl
theorem gh_476 : (Cond.instanceMethod yX11_errorKind) ∈ oa_GT := oa_g2 151 rfl rfl
theorem gh_477 : (Cond.selects RX11 yX11_errorKind yX11_errorKind) ∈ oa_GT := oa_g2 152 rfl rfl
theorem gh_479 : (Cond.methodLink RL 174 yX11_count) ∈ oa_GT := oa_g2 154 rfl rfl
theorem gh_480 : (Cond.instanceMethod yX11_count) ∈ oa_GT := oa_g2 155 rfl rfl
theorem gh_481 : (Cond.selects RX11 yX11_count yX11_count) ∈ oa_GT := oa_g2 156 rfl rfl
theorem gh_483 : (Cond.methodLink RL 204 yX11_day) ∈ oa_GT := oa_g2 158 rfl rfl
theorem gh_484 : (Cond.instanceMethod yX11_day) ∈ oa_GT := oa_g2 159 rfl rfl
theorem gh_485 : (Cond.selects RX11 yX11_day yX11_day) ∈ oa_GT := oa_g2 160 rfl rfl
theorem gh_487 : (Cond.methodLink RL 250 yX11_scarcestPart) ∈ oa_GT := oa_g2 162 rfl rfl
theorem gh_488 : (Cond.instanceMethod yX11_scarcestPart) ∈ oa_GT := oa_g2 163 rfl rfl
theorem gh_489 : (Cond.selects RX11 yX11_scarcestPart yX11_scarcestPart) ∈ oa_GT := oa_g2 164 rfl rfl
theorem gh_536 : (Cond.methodLink RL 263 yX11_lateOrders) ∈ oa_GT := oa_g2 211 rfl rfl
theorem gh_537 : (Cond.instanceMethod yX11_lateOrders) ∈ oa_GT := oa_g2 212 rfl rfl
theorem gh_538 : (Cond.selects RX11 yX11_lateOrders yX11_lateOrders) ∈ oa_GT := oa_g2 213 rfl rfl
theorem gh_565 : (Cond.methodLink RL 283 yX11_coveredOrders) ∈ oa_GT := oa_g3 0 rfl rfl
theorem gh_566 : (Cond.instanceMethod yX11_coveredOrders) ∈ oa_GT := oa_g3 1 rfl rfl
theorem gh_567 : (Cond.selects RX11 yX11_coveredOrders yX11_coveredOrders) ∈ oa_GT := oa_g3 2 rfl rfl
theorem gh_612 : (Cond.methodLink RL 287 yX11_promiseOfAll) ∈ oa_GT := oa_g3 47 rfl rfl
theorem gh_613 : (Cond.instanceMethod yX11_promiseOfAll) ∈ oa_GT := oa_g3 48 rfl rfl
theorem gh_614 : (Cond.selects RX11 yX11_promiseOfAll yX11_promiseOfAll) ∈ oa_GT := oa_g3 49 rfl rfl
theorem gh_616 : (Cond.methodLink RL 304 yX11_allocate) ∈ oa_GT := oa_g3 51 rfl rfl
theorem gh_617 : (Cond.instanceMethod yX11_allocate) ∈ oa_GT := oa_g3 52 rfl rfl
theorem gh_618 : (Cond.selects RX11 yX11_allocate yX11_allocate) ∈ oa_GT := oa_g3 53 rfl rfl
theorem gh_695 : (Cond.methodLink RL 320 yX11_undo) ∈ oa_GT := oa_g3 130 rfl rfl
theorem gh_696 : (Cond.instanceMethod yX11_undo) ∈ oa_GT := oa_g3 131 rfl rfl
theorem gh_697 : (Cond.selects RX11 yX11_undo yX11_undo) ∈ oa_GT := oa_g3 132 rfl rfl
theorem gh_703 : (Cond.methodLink RL 324 yX11_undoDepth) ∈ oa_GT := oa_g3 138 rfl rfl
theorem gh_704 : (Cond.instanceMethod yX11_undoDepth) ∈ oa_GT := oa_g3 139 rfl rfl
theorem gh_705 : (Cond.selects RX11 yX11_undoDepth yX11_undoDepth) ∈ oa_GT := oa_g3 140 rfl rfl
theorem gh_707 : (Cond.methodLink RL 328 yX11_total) ∈ oa_GT := oa_g3 142 rfl rfl
theorem gh_708 : (Cond.instanceMethod yX11_total) ∈ oa_GT := oa_g3 143 rfl rfl
theorem gh_709 : (Cond.selects RX11 yX11_total yX11_total) ∈ oa_GT := oa_g3 144 rfl rfl
theorem gh_716 : (Cond.methodLink RL 332 yX11_shipment) ∈ oa_GT := oa_g3 151 rfl rfl
theorem gh_717 : (Cond.instanceMethod yX11_shipment) ∈ oa_GT := oa_g3 152 rfl rfl
theorem gh_718 : (Cond.selects RX11 yX11_shipment yX11_shipment) ∈ oa_GT := oa_g3 153 rfl rfl
theorem gh_726 : (Cond.methodLink RL 342 yX11_formattedByte) ∈ oa_GT := oa_g3 161 rfl rfl
theorem gh_727 : (Cond.instanceMethod yX11_formattedByte) ∈ oa_GT := oa_g3 162 rfl rfl
theorem gh_728 : (Cond.selects RX11 yX11_formattedByte yX11_formattedByte) ∈ oa_GT := oa_g3 163 rfl rfl
theorem gh_735 : (Cond.methodLink RL 157 yL_load) ∈ oa_GT := oa_g3 170 rfl rfl
theorem gh_736 : (Cond.static yL_load) ∈ oa_GT := oa_g3 171 rfl rfl
theorem gh_1041 : (Cond.methodLink RL 178 yL_lineCount) ∈ oa_GT := oa_g4 236 rfl rfl
theorem gh_1042 : (Cond.static yL_lineCount) ∈ oa_GT := oa_g4 237 rfl rfl
theorem gh_1074 : (Cond.methodLink RL 182 yL_lineItem) ∈ oa_GT := oa_g5 29 rfl rfl
theorem gh_1075 : (Cond.static yL_lineItem) ∈ oa_GT := oa_g5 30 rfl rfl
theorem gh_1086 : (Cond.methodLink RL 186 yL_lineQuantity) ∈ oa_GT := oa_g5 41 rfl rfl
theorem gh_1087 : (Cond.static yL_lineQuantity) ∈ oa_GT := oa_g5 42 rfl rfl
theorem gh_1097 : (Cond.methodLink RL 189 yL_need) ∈ oa_GT := oa_g5 52 rfl rfl
theorem gh_1098 : (Cond.static yL_need) ∈ oa_GT := oa_g5 53 rfl rfl
theorem gh_1109 : (Cond.methodLink RL 192 yL_level) ∈ oa_GT := oa_g5 64 rfl rfl
theorem gh_1110 : (Cond.static yL_level) ∈ oa_GT := oa_g5 65 rfl rfl
theorem gh_1117 : (Cond.methodLink RL 195 yL_pieces) ∈ oa_GT := oa_g5 72 rfl rfl
theorem gh_1118 : (Cond.static yL_pieces) ∈ oa_GT := oa_g5 73 rfl rfl
theorem gh_1124 : (Cond.methodLink RL 198 yL_usedBy) ∈ oa_GT := oa_g5 79 rfl rfl
theorem gh_1125 : (Cond.static yL_usedBy) ∈ oa_GT := oa_g5 80 rfl rfl
theorem gh_1131 : (Cond.methodLink RL 201 yL_commonParts) ∈ oa_GT := oa_g5 86 rfl rfl
theorem gh_1132 : (Cond.static yL_commonParts) ∈ oa_GT := oa_g5 87 rfl rfl
theorem gh_1138 : (Cond.methodLink RL 208 yL_stock) ∈ oa_GT := oa_g5 93 rfl rfl
theorem gh_1139 : (Cond.static yL_stock) ∈ oa_GT := oa_g5 94 rfl rfl
theorem gh_1146 : (Cond.methodLink RL 211 yL_reserved) ∈ oa_GT := oa_g5 101 rfl rfl
theorem gh_1147 : (Cond.static yL_reserved) ∈ oa_GT := oa_g5 102 rfl rfl
theorem gh_1154 : (Cond.methodLink RL 214 yL_arriving) ∈ oa_GT := oa_g5 109 rfl rfl
theorem gh_1155 : (Cond.static yL_arriving) ∈ oa_GT := oa_g5 110 rfl rfl
theorem gh_1161 : (Cond.methodLink RL 217 yL_nextArrival) ∈ oa_GT := oa_g5 116 rfl rfl
theorem gh_1162 : (Cond.static yL_nextArrival) ∈ oa_GT := oa_g5 117 rfl rfl
theorem gh_1172 : (Cond.methodLink RL 220 yL_buildable) ∈ oa_GT := oa_g5 127 rfl rfl
theorem gh_1173 : (Cond.static yL_buildable) ∈ oa_GT := oa_g5 128 rfl rfl
theorem gh_1181 : (Cond.methodLink RL 223 yL_bottleneck) ∈ oa_GT := oa_g5 136 rfl rfl
theorem gh_1182 : (Cond.static yL_bottleneck) ∈ oa_GT := oa_g5 137 rfl rfl
theorem gh_1189 : (Cond.methodLink RL 226 yL_buildableTogether) ∈ oa_GT := oa_g5 144 rfl rfl
theorem gh_1190 : (Cond.static yL_buildableTogether) ∈ oa_GT := oa_g5 145 rfl rfl
theorem gh_1217 : (Cond.methodLink RL 229 yL_stateOf) ∈ oa_GT := oa_g5 172 rfl rfl
theorem gh_1218 : (Cond.static yL_stateOf) ∈ oa_GT := oa_g5 173 rfl rfl
theorem gh_1238 : (Cond.methodLink RL 232 yL_openUnits) ∈ oa_GT := oa_g5 193 rfl rfl
theorem gh_1239 : (Cond.static yL_openUnits) ∈ oa_GT := oa_g5 194 rfl rfl
theorem gh_1245 : (Cond.methodLink RL 235 yL_reservedUnits) ∈ oa_GT := oa_g5 200 rfl rfl
theorem gh_1246 : (Cond.static yL_reservedUnits) ∈ oa_GT := oa_g5 201 rfl rfl
theorem gh_1253 : (Cond.methodLink RL 238 yL_shippedUnits) ∈ oa_GT := oa_g5 208 rfl rfl
theorem gh_1254 : (Cond.static yL_shippedUnits) ∈ oa_GT := oa_g5 209 rfl rfl
theorem gh_1264 : (Cond.methodLink RL 241 yL_orderField) ∈ oa_GT := oa_g5 219 rfl rfl
theorem gh_1265 : (Cond.static yL_orderField) ∈ oa_GT := oa_g5 220 rfl rfl
theorem gh_1277 : (Cond.methodLink RL 244 yL_missing) ∈ oa_GT := oa_g5 232 rfl rfl
theorem gh_1278 : (Cond.static yL_missing) ∈ oa_GT := oa_g5 233 rfl rfl
theorem gh_1288 : (Cond.methodLink RL 247 yL_toBuy) ∈ oa_GT := oa_g6 3 rfl rfl
theorem gh_1289 : (Cond.static yL_toBuy) ∈ oa_GT := oa_g6 4 rfl rfl
theorem gh_1295 : (Cond.methodLink RL 254 yL_promise) ∈ oa_GT := oa_g6 10 rfl rfl
theorem gh_1296 : (Cond.static yL_promise) ∈ oa_GT := oa_g6 11 rfl rfl
theorem gh_1302 : (Cond.methodLink RL 257 yL_promiseOf) ∈ oa_GT := oa_g6 17 rfl rfl
theorem gh_1303 : (Cond.static yL_promiseOf) ∈ oa_GT := oa_g6 18 rfl rfl
theorem gh_1313 : (Cond.methodLink RL 260 yL_delayingPart) ∈ oa_GT := oa_g6 28 rfl rfl
theorem gh_1314 : (Cond.static yL_delayingPart) ∈ oa_GT := oa_g6 29 rfl rfl
theorem gh_1320 : (Cond.methodLink RL 267 yL_wouldGet) ∈ oa_GT := oa_g6 35 rfl rfl
theorem gh_1321 : (Cond.static yL_wouldGet) ∈ oa_GT := oa_g6 36 rfl rfl
theorem gh_1327 : (Cond.methodLink RL 270 yL_rungOf) ∈ oa_GT := oa_g6 42 rfl rfl
theorem gh_1328 : (Cond.static yL_rungOf) ∈ oa_GT := oa_g6 43 rfl rfl
theorem gh_1338 : (Cond.methodLink RL 273 yL_rungUnits) ∈ oa_GT := oa_g6 53 rfl rfl
theorem gh_1339 : (Cond.static yL_rungUnits) ∈ oa_GT := oa_g6 54 rfl rfl
theorem gh_1354 : (Cond.methodLink RL 276 yL_missingPieces) ∈ oa_GT := oa_g6 69 rfl rfl
theorem gh_1355 : (Cond.static yL_missingPieces) ∈ oa_GT := oa_g6 70 rfl rfl
theorem gh_1361 : (Cond.methodLink RL 279 yL_buildableAfter) ∈ oa_GT := oa_g6 76 rfl rfl
theorem gh_1362 : (Cond.static yL_buildableAfter) ∈ oa_GT := oa_g6 77 rfl rfl
theorem gh_1369 : (Cond.methodLink RL 291 yL_addOrder) ∈ oa_GT := oa_g6 84 rfl rfl
theorem gh_1370 : (Cond.static yL_addOrder) ∈ oa_GT := oa_g6 85 rfl rfl
theorem gh_1397 : (Cond.methodLink RL 295 yL_cancel) ∈ oa_GT := oa_g6 112 rfl rfl
theorem gh_1398 : (Cond.static yL_cancel) ∈ oa_GT := oa_g6 113 rfl rfl
theorem gh_1408 : (Cond.methodLink RL 298 yL_reserve) ∈ oa_GT := oa_g6 123 rfl rfl
theorem gh_1409 : (Cond.static yL_reserve) ∈ oa_GT := oa_g6 124 rfl rfl
theorem gh_1421 : (Cond.methodLink RL 301 yL_release) ∈ oa_GT := oa_g6 136 rfl rfl
theorem gh_1422 : (Cond.static yL_release) ∈ oa_GT := oa_g6 137 rfl rfl
theorem gh_1428 : (Cond.methodLink RL 308 yL_ship) ∈ oa_GT := oa_g6 143 rfl rfl
theorem gh_1429 : (Cond.static yL_ship) ∈ oa_GT := oa_g6 144 rfl rfl
theorem gh_1452 : (Cond.methodLink RL 311 yL_buy) ∈ oa_GT := oa_g6 167 rfl rfl
theorem gh_1453 : (Cond.static yL_buy) ∈ oa_GT := oa_g6 168 rfl rfl
theorem gh_1467 : (Cond.methodLink RL 314 yL_adjust) ∈ oa_GT := oa_g6 182 rfl rfl
theorem gh_1468 : (Cond.static yL_adjust) ∈ oa_GT := oa_g6 183 rfl rfl
theorem gh_1491 : (Cond.methodLink RL 317 yL_advance) ∈ oa_GT := oa_g6 206 rfl rfl
theorem gh_1492 : (Cond.static yL_advance) ∈ oa_GT := oa_g6 207 rfl rfl
theorem gh_1503 : (Cond.methodLink RL 336 yL_formatOrder) ∈ oa_GT := oa_g6 218 rfl rfl
theorem gh_1504 : (Cond.static yL_formatOrder) ∈ oa_GT := oa_g6 219 rfl rfl
theorem gh_1546 : (Cond.methodLink RL 339 yL_formatNeeds) ∈ oa_GT := oa_g7 21 rfl rfl
theorem gh_1547 : (Cond.static yL_formatNeeds) ∈ oa_GT := oa_g7 22 rfl rfl
theorem gh_1560 : (Cond.methodLink RL 163 yX12_thrown) ∈ oa_GT := oa_g7 35 rfl rfl
theorem gh_1561 : (Cond.instanceMethod yX12_thrown) ∈ oa_GT := oa_g7 36 rfl rfl
theorem gh_1562 : (Cond.selects RX12 yX12_thrown yX12_thrown) ∈ oa_GT := oa_g7 37 rfl rfl
theorem gh_1564 : (Cond.methodLink RL 151 yX12_append) ∈ oa_GT := oa_g7 39 rfl rfl
theorem gh_1565 : (Cond.instanceMethod yX12_append) ∈ oa_GT := oa_g7 40 rfl rfl
theorem gh_1566 : (Cond.selects RX12 yX12_append yX12_append) ∈ oa_GT := oa_g7 41 rfl rfl
theorem gh_1568 : (Cond.methodLink RL 156 yX12_truncate) ∈ oa_GT := oa_g7 43 rfl rfl
theorem gh_1569 : (Cond.instanceMethod yX12_truncate) ∈ oa_GT := oa_g7 44 rfl rfl
theorem gh_1570 : (Cond.selects RX12 yX12_truncate yX12_truncate) ∈ oa_GT := oa_g7 45 rfl rfl
theorem gh_1572 : (Cond.methodLink RL 169 yX12_errorOffset) ∈ oa_GT := oa_g7 47 rfl rfl
theorem gh_1573 : (Cond.instanceMethod yX12_errorOffset) ∈ oa_GT := oa_g7 48 rfl rfl
theorem gh_1574 : (Cond.selects RX12 yX12_errorOffset yX12_errorOffset) ∈ oa_GT := oa_g7 49 rfl rfl
theorem gh_1576 : (Cond.methodLink RL 173 yX12_errorKind) ∈ oa_GT := oa_g7 51 rfl rfl
theorem gh_1577 : (Cond.instanceMethod yX12_errorKind) ∈ oa_GT := oa_g7 52 rfl rfl
theorem gh_1578 : (Cond.selects RX12 yX12_errorKind yX12_errorKind) ∈ oa_GT := oa_g7 53 rfl rfl
theorem gh_1670 : (Cond.methodLink RL 162 yX12_load) ∈ oa_GT := oa_g7 145 rfl rfl
theorem gh_1671 : (Cond.instanceMethod yX12_load) ∈ oa_GT := oa_g7 146 rfl rfl
theorem gh_1672 : (Cond.selects RX12 yX12_load yX12_load) ∈ oa_GT := oa_g7 147 rfl rfl
theorem gh_1752 : (Cond.methodLink RL 323 yX12_undo) ∈ oa_GT := oa_g7 227 rfl rfl
theorem gh_1753 : (Cond.instanceMethod yX12_undo) ∈ oa_GT := oa_g7 228 rfl rfl
theorem gh_1754 : (Cond.selects RX12 yX12_undo yX12_undo) ∈ oa_GT := oa_g7 229 rfl rfl
theorem gh_1756 : (Cond.methodLink RL 327 yX12_undoDepth) ∈ oa_GT := oa_g7 231 rfl rfl
theorem gh_1757 : (Cond.instanceMethod yX12_undoDepth) ∈ oa_GT := oa_g7 232 rfl rfl
theorem gh_1758 : (Cond.selects RX12 yX12_undoDepth yX12_undoDepth) ∈ oa_GT := oa_g7 233 rfl rfl
theorem gh_1760 : (Cond.methodLink RL 177 yX12_count) ∈ oa_GT := oa_g7 235 rfl rfl
theorem gh_1761 : (Cond.instanceMethod yX12_count) ∈ oa_GT := oa_g7 236 rfl rfl
theorem gh_1762 : (Cond.selects RX12 yX12_count yX12_count) ∈ oa_GT := oa_g7 237 rfl rfl
theorem gh_1764 : (Cond.methodLink RL 181 yX12_lineCount) ∈ oa_GT := oa_g7 239 rfl rfl
theorem gh_1765 : (Cond.instanceMethod yX12_lineCount) ∈ oa_GT := oa_g8 0 rfl rfl
theorem gh_1766 : (Cond.selects RX12 yX12_lineCount yX12_lineCount) ∈ oa_GT := oa_g8 1 rfl rfl
theorem gh_1772 : (Cond.methodLink RL 185 yX12_lineItem) ∈ oa_GT := oa_g8 7 rfl rfl
theorem gh_1773 : (Cond.instanceMethod yX12_lineItem) ∈ oa_GT := oa_g8 8 rfl rfl
theorem gh_1774 : (Cond.selects RX12 yX12_lineItem yX12_lineItem) ∈ oa_GT := oa_g8 9 rfl rfl
theorem gh_1776 : (Cond.methodLink RL 188 yX12_lineQuantity) ∈ oa_GT := oa_g8 11 rfl rfl
theorem gh_1777 : (Cond.instanceMethod yX12_lineQuantity) ∈ oa_GT := oa_g8 12 rfl rfl
theorem gh_1778 : (Cond.selects RX12 yX12_lineQuantity yX12_lineQuantity) ∈ oa_GT := oa_g8 13 rfl rfl
theorem gh_1780 : (Cond.methodLink RL 191 yX12_need) ∈ oa_GT := oa_g8 15 rfl rfl
theorem gh_1781 : (Cond.instanceMethod yX12_need) ∈ oa_GT := oa_g8 16 rfl rfl
theorem gh_1782 : (Cond.selects RX12 yX12_need yX12_need) ∈ oa_GT := oa_g8 17 rfl rfl
theorem gh_1792 : (Cond.methodLink RL 194 yX12_level) ∈ oa_GT := oa_g8 27 rfl rfl
theorem gh_1793 : (Cond.instanceMethod yX12_level) ∈ oa_GT := oa_g8 28 rfl rfl
theorem gh_1794 : (Cond.selects RX12 yX12_level yX12_level) ∈ oa_GT := oa_g8 29 rfl rfl
theorem gh_1801 : (Cond.methodLink RL 197 yX12_pieces) ∈ oa_GT := oa_g8 36 rfl rfl
theorem gh_1802 : (Cond.instanceMethod yX12_pieces) ∈ oa_GT := oa_g8 37 rfl rfl
theorem gh_1803 : (Cond.selects RX12 yX12_pieces yX12_pieces) ∈ oa_GT := oa_g8 38 rfl rfl
theorem gh_1805 : (Cond.methodLink RL 200 yX12_usedBy) ∈ oa_GT := oa_g8 40 rfl rfl
theorem gh_1806 : (Cond.instanceMethod yX12_usedBy) ∈ oa_GT := oa_g8 41 rfl rfl
theorem gh_1807 : (Cond.selects RX12 yX12_usedBy yX12_usedBy) ∈ oa_GT := oa_g8 42 rfl rfl
theorem gh_1809 : (Cond.methodLink RL 203 yX12_commonParts) ∈ oa_GT := oa_g8 44 rfl rfl
theorem gh_1810 : (Cond.instanceMethod yX12_commonParts) ∈ oa_GT := oa_g8 45 rfl rfl
theorem gh_1811 : (Cond.selects RX12 yX12_commonParts yX12_commonParts) ∈ oa_GT := oa_g8 46 rfl rfl
theorem gh_1813 : (Cond.methodLink RL 207 yX12_day) ∈ oa_GT := oa_g8 48 rfl rfl
theorem gh_1814 : (Cond.instanceMethod yX12_day) ∈ oa_GT := oa_g8 49 rfl rfl
theorem gh_1815 : (Cond.selects RX12 yX12_day yX12_day) ∈ oa_GT := oa_g8 50 rfl rfl
theorem gh_1817 : (Cond.methodLink RL 210 yX12_stock) ∈ oa_GT := oa_g8 52 rfl rfl
theorem gh_1818 : (Cond.instanceMethod yX12_stock) ∈ oa_GT := oa_g8 53 rfl rfl
theorem gh_1819 : (Cond.selects RX12 yX12_stock yX12_stock) ∈ oa_GT := oa_g8 54 rfl rfl
theorem gh_1821 : (Cond.methodLink RL 213 yX12_reserved) ∈ oa_GT := oa_g8 56 rfl rfl
theorem gh_1822 : (Cond.instanceMethod yX12_reserved) ∈ oa_GT := oa_g8 57 rfl rfl
theorem gh_1823 : (Cond.selects RX12 yX12_reserved yX12_reserved) ∈ oa_GT := oa_g8 58 rfl rfl
theorem gh_1825 : (Cond.methodLink RL 216 yX12_arriving) ∈ oa_GT := oa_g8 60 rfl rfl
theorem gh_1826 : (Cond.instanceMethod yX12_arriving) ∈ oa_GT := oa_g8 61 rfl rfl
theorem gh_1827 : (Cond.selects RX12 yX12_arriving yX12_arriving) ∈ oa_GT := oa_g8 62 rfl rfl
theorem gh_1834 : (Cond.methodLink RL 219 yX12_nextArrival) ∈ oa_GT := oa_g8 69 rfl rfl
theorem gh_1835 : (Cond.instanceMethod yX12_nextArrival) ∈ oa_GT := oa_g8 70 rfl rfl
theorem gh_1836 : (Cond.selects RX12 yX12_nextArrival yX12_nextArrival) ∈ oa_GT := oa_g8 71 rfl rfl
theorem gh_1838 : (Cond.methodLink RL 222 yX12_buildable) ∈ oa_GT := oa_g8 73 rfl rfl
theorem gh_1839 : (Cond.instanceMethod yX12_buildable) ∈ oa_GT := oa_g8 74 rfl rfl
theorem gh_1840 : (Cond.selects RX12 yX12_buildable yX12_buildable) ∈ oa_GT := oa_g8 75 rfl rfl
theorem gh_1854 : (Cond.methodLink RL 225 yX12_bottleneck) ∈ oa_GT := oa_g8 89 rfl rfl
theorem gh_1855 : (Cond.instanceMethod yX12_bottleneck) ∈ oa_GT := oa_g8 90 rfl rfl
theorem gh_1856 : (Cond.selects RX12 yX12_bottleneck yX12_bottleneck) ∈ oa_GT := oa_g8 91 rfl rfl
theorem gh_1858 : (Cond.methodLink RL 228 yX12_buildableTogether) ∈ oa_GT := oa_g8 93 rfl rfl
theorem gh_1859 : (Cond.instanceMethod yX12_buildableTogether) ∈ oa_GT := oa_g8 94 rfl rfl
theorem gh_1860 : (Cond.selects RX12 yX12_buildableTogether yX12_buildableTogether) ∈ oa_GT := oa_g8 95 rfl rfl
theorem gh_1863 : (Cond.methodLink RL 231 yX12_stateOf) ∈ oa_GT := oa_g8 98 rfl rfl
theorem gh_1864 : (Cond.instanceMethod yX12_stateOf) ∈ oa_GT := oa_g8 99 rfl rfl
theorem gh_1865 : (Cond.selects RX12 yX12_stateOf yX12_stateOf) ∈ oa_GT := oa_g8 100 rfl rfl
theorem gh_1879 : (Cond.methodLink RL 234 yX12_openUnits) ∈ oa_GT := oa_g8 114 rfl rfl
theorem gh_1880 : (Cond.instanceMethod yX12_openUnits) ∈ oa_GT := oa_g8 115 rfl rfl
theorem gh_1881 : (Cond.selects RX12 yX12_openUnits yX12_openUnits) ∈ oa_GT := oa_g8 116 rfl rfl
theorem gh_1883 : (Cond.methodLink RL 237 yX12_reservedUnits) ∈ oa_GT := oa_g8 118 rfl rfl
theorem gh_1884 : (Cond.instanceMethod yX12_reservedUnits) ∈ oa_GT := oa_g8 119 rfl rfl
theorem gh_1885 : (Cond.selects RX12 yX12_reservedUnits yX12_reservedUnits) ∈ oa_GT := oa_g8 120 rfl rfl
theorem gh_1887 : (Cond.methodLink RL 240 yX12_shippedUnits) ∈ oa_GT := oa_g8 122 rfl rfl
theorem gh_1888 : (Cond.instanceMethod yX12_shippedUnits) ∈ oa_GT := oa_g8 123 rfl rfl
theorem gh_1889 : (Cond.selects RX12 yX12_shippedUnits yX12_shippedUnits) ∈ oa_GT := oa_g8 124 rfl rfl
theorem gh_1891 : (Cond.methodLink RL 243 yX12_orderField) ∈ oa_GT := oa_g8 126 rfl rfl
theorem gh_1892 : (Cond.instanceMethod yX12_orderField) ∈ oa_GT := oa_g8 127 rfl rfl
theorem gh_1893 : (Cond.selects RX12 yX12_orderField yX12_orderField) ∈ oa_GT := oa_g8 128 rfl rfl
theorem gh_1895 : (Cond.methodLink RL 246 yX12_missing) ∈ oa_GT := oa_g8 130 rfl rfl
theorem gh_1896 : (Cond.instanceMethod yX12_missing) ∈ oa_GT := oa_g8 131 rfl rfl
theorem gh_1897 : (Cond.selects RX12 yX12_missing yX12_missing) ∈ oa_GT := oa_g8 132 rfl rfl
theorem gh_1899 : (Cond.methodLink RL 249 yX12_toBuy) ∈ oa_GT := oa_g8 134 rfl rfl
theorem gh_1900 : (Cond.instanceMethod yX12_toBuy) ∈ oa_GT := oa_g8 135 rfl rfl
theorem gh_1901 : (Cond.selects RX12 yX12_toBuy yX12_toBuy) ∈ oa_GT := oa_g8 136 rfl rfl
theorem gh_1907 : (Cond.methodLink RL 253 yX12_scarcestPart) ∈ oa_GT := oa_g8 142 rfl rfl
theorem gh_1908 : (Cond.instanceMethod yX12_scarcestPart) ∈ oa_GT := oa_g8 143 rfl rfl
theorem gh_1909 : (Cond.selects RX12 yX12_scarcestPart yX12_scarcestPart) ∈ oa_GT := oa_g8 144 rfl rfl
theorem gh_1911 : (Cond.methodLink RL 256 yX12_promise) ∈ oa_GT := oa_g8 146 rfl rfl
theorem gh_1912 : (Cond.instanceMethod yX12_promise) ∈ oa_GT := oa_g8 147 rfl rfl
theorem gh_1913 : (Cond.selects RX12 yX12_promise yX12_promise) ∈ oa_GT := oa_g8 148 rfl rfl
theorem gh_1923 : (Cond.methodLink RL 259 yX12_promiseOf) ∈ oa_GT := oa_g8 158 rfl rfl
theorem gh_1924 : (Cond.instanceMethod yX12_promiseOf) ∈ oa_GT := oa_g8 159 rfl rfl
theorem gh_1925 : (Cond.selects RX12 yX12_promiseOf yX12_promiseOf) ∈ oa_GT := oa_g8 160 rfl rfl
theorem gh_1931 : (Cond.methodLink RL 262 yX12_delayingPart) ∈ oa_GT := oa_g8 166 rfl rfl
theorem gh_1932 : (Cond.instanceMethod yX12_delayingPart) ∈ oa_GT := oa_g8 167 rfl rfl
theorem gh_1933 : (Cond.selects RX12 yX12_delayingPart yX12_delayingPart) ∈ oa_GT := oa_g8 168 rfl rfl
theorem gh_1935 : (Cond.methodLink RL 266 yX12_lateOrders) ∈ oa_GT := oa_g8 170 rfl rfl
theorem gh_1936 : (Cond.instanceMethod yX12_lateOrders) ∈ oa_GT := oa_g8 171 rfl rfl
theorem gh_1937 : (Cond.selects RX12 yX12_lateOrders yX12_lateOrders) ∈ oa_GT := oa_g8 172 rfl rfl
theorem gh_1939 : (Cond.methodLink RL 269 yX12_wouldGet) ∈ oa_GT := oa_g8 174 rfl rfl
theorem gh_1940 : (Cond.instanceMethod yX12_wouldGet) ∈ oa_GT := oa_g8 175 rfl rfl
theorem gh_1941 : (Cond.selects RX12 yX12_wouldGet yX12_wouldGet) ∈ oa_GT := oa_g8 176 rfl rfl
theorem gh_1967 : (Cond.methodLink RL 272 yX12_rungOf) ∈ oa_GT := oa_g8 202 rfl rfl
theorem gh_1968 : (Cond.instanceMethod yX12_rungOf) ∈ oa_GT := oa_g8 203 rfl rfl
theorem gh_1969 : (Cond.selects RX12 yX12_rungOf yX12_rungOf) ∈ oa_GT := oa_g8 204 rfl rfl
theorem gh_1971 : (Cond.methodLink RL 275 yX12_rungUnits) ∈ oa_GT := oa_g8 206 rfl rfl
theorem gh_1972 : (Cond.instanceMethod yX12_rungUnits) ∈ oa_GT := oa_g8 207 rfl rfl
theorem gh_1973 : (Cond.selects RX12 yX12_rungUnits yX12_rungUnits) ∈ oa_GT := oa_g8 208 rfl rfl
theorem gh_1975 : (Cond.methodLink RL 278 yX12_missingPieces) ∈ oa_GT := oa_g8 210 rfl rfl
theorem gh_1976 : (Cond.instanceMethod yX12_missingPieces) ∈ oa_GT := oa_g8 211 rfl rfl
theorem gh_1977 : (Cond.selects RX12 yX12_missingPieces yX12_missingPieces) ∈ oa_GT := oa_g8 212 rfl rfl
theorem gh_1979 : (Cond.methodLink RL 282 yX12_buildableAfter) ∈ oa_GT := oa_g8 214 rfl rfl
theorem gh_1980 : (Cond.instanceMethod yX12_buildableAfter) ∈ oa_GT := oa_g8 215 rfl rfl
theorem gh_1981 : (Cond.selects RX12 yX12_buildableAfter yX12_buildableAfter) ∈ oa_GT := oa_g8 216 rfl rfl
theorem gh_1983 : (Cond.methodLink RL 286 yX12_coveredOrders) ∈ oa_GT := oa_g8 218 rfl rfl
theorem gh_1984 : (Cond.instanceMethod yX12_coveredOrders) ∈ oa_GT := oa_g8 219 rfl rfl
theorem gh_1985 : (Cond.selects RX12 yX12_coveredOrders yX12_coveredOrders) ∈ oa_GT := oa_g8 220 rfl rfl
theorem gh_1995 : (Cond.methodLink RL 290 yX12_promiseOfAll) ∈ oa_GT := oa_g8 230 rfl rfl
theorem gh_1996 : (Cond.instanceMethod yX12_promiseOfAll) ∈ oa_GT := oa_g8 231 rfl rfl
theorem gh_1997 : (Cond.selects RX12 yX12_promiseOfAll yX12_promiseOfAll) ∈ oa_GT := oa_g8 232 rfl rfl
theorem gh_1999 : (Cond.methodLink RL 294 yX12_addOrder) ∈ oa_GT := oa_g8 234 rfl rfl
theorem gh_2000 : (Cond.instanceMethod yX12_addOrder) ∈ oa_GT := oa_g8 235 rfl rfl
theorem gh_2001 : (Cond.selects RX12 yX12_addOrder yX12_addOrder) ∈ oa_GT := oa_g8 236 rfl rfl
theorem gh_2007 : (Cond.methodLink RL 297 yX12_cancel) ∈ oa_GT := oa_g9 2 rfl rfl
theorem gh_2008 : (Cond.instanceMethod yX12_cancel) ∈ oa_GT := oa_g9 3 rfl rfl
theorem gh_2009 : (Cond.selects RX12 yX12_cancel yX12_cancel) ∈ oa_GT := oa_g9 4 rfl rfl
theorem gh_2019 : (Cond.methodLink RL 300 yX12_reserve) ∈ oa_GT := oa_g9 14 rfl rfl
theorem gh_2020 : (Cond.instanceMethod yX12_reserve) ∈ oa_GT := oa_g9 15 rfl rfl
theorem gh_2021 : (Cond.selects RX12 yX12_reserve yX12_reserve) ∈ oa_GT := oa_g9 16 rfl rfl
theorem gh_2031 : (Cond.methodLink RL 303 yX12_release) ∈ oa_GT := oa_g9 26 rfl rfl
theorem gh_2032 : (Cond.instanceMethod yX12_release) ∈ oa_GT := oa_g9 27 rfl rfl
theorem gh_2033 : (Cond.selects RX12 yX12_release yX12_release) ∈ oa_GT := oa_g9 28 rfl rfl
theorem gh_2035 : (Cond.methodLink RL 307 yX12_allocate) ∈ oa_GT := oa_g9 30 rfl rfl
theorem gh_2036 : (Cond.instanceMethod yX12_allocate) ∈ oa_GT := oa_g9 31 rfl rfl
theorem gh_2037 : (Cond.selects RX12 yX12_allocate yX12_allocate) ∈ oa_GT := oa_g9 32 rfl rfl
theorem gh_2039 : (Cond.methodLink RL 310 yX12_ship) ∈ oa_GT := oa_g9 34 rfl rfl
theorem gh_2040 : (Cond.instanceMethod yX12_ship) ∈ oa_GT := oa_g9 35 rfl rfl
theorem gh_2041 : (Cond.selects RX12 yX12_ship yX12_ship) ∈ oa_GT := oa_g9 36 rfl rfl
theorem gh_2047 : (Cond.methodLink RL 313 yX12_buy) ∈ oa_GT := oa_g9 42 rfl rfl
theorem gh_2048 : (Cond.instanceMethod yX12_buy) ∈ oa_GT := oa_g9 43 rfl rfl
theorem gh_2049 : (Cond.selects RX12 yX12_buy yX12_buy) ∈ oa_GT := oa_g9 44 rfl rfl
theorem gh_2051 : (Cond.methodLink RL 316 yX12_adjust) ∈ oa_GT := oa_g9 46 rfl rfl
theorem gh_2052 : (Cond.instanceMethod yX12_adjust) ∈ oa_GT := oa_g9 47 rfl rfl
theorem gh_2053 : (Cond.selects RX12 yX12_adjust yX12_adjust) ∈ oa_GT := oa_g9 48 rfl rfl
theorem gh_2059 : (Cond.methodLink RL 319 yX12_advance) ∈ oa_GT := oa_g9 54 rfl rfl
theorem gh_2060 : (Cond.instanceMethod yX12_advance) ∈ oa_GT := oa_g9 55 rfl rfl
theorem gh_2061 : (Cond.selects RX12 yX12_advance yX12_advance) ∈ oa_GT := oa_g9 56 rfl rfl
theorem gh_2067 : (Cond.methodLink RL 331 yX12_total) ∈ oa_GT := oa_g9 62 rfl rfl
theorem gh_2068 : (Cond.instanceMethod yX12_total) ∈ oa_GT := oa_g9 63 rfl rfl
theorem gh_2069 : (Cond.selects RX12 yX12_total yX12_total) ∈ oa_GT := oa_g9 64 rfl rfl
theorem gh_2071 : (Cond.methodLink RL 335 yX12_shipment) ∈ oa_GT := oa_g9 66 rfl rfl
theorem gh_2072 : (Cond.instanceMethod yX12_shipment) ∈ oa_GT := oa_g9 67 rfl rfl
theorem gh_2073 : (Cond.selects RX12 yX12_shipment yX12_shipment) ∈ oa_GT := oa_g9 68 rfl rfl
theorem gh_2075 : (Cond.methodLink RL 338 yX12_formatOrder) ∈ oa_GT := oa_g9 70 rfl rfl
theorem gh_2076 : (Cond.instanceMethod yX12_formatOrder) ∈ oa_GT := oa_g9 71 rfl rfl
theorem gh_2077 : (Cond.selects RX12 yX12_formatOrder yX12_formatOrder) ∈ oa_GT := oa_g9 72 rfl rfl
theorem gh_2107 : (Cond.methodLink RL 341 yX12_formatNeeds) ∈ oa_GT := oa_g9 102 rfl rfl
theorem gh_2108 : (Cond.instanceMethod yX12_formatNeeds) ∈ oa_GT := oa_g9 103 rfl rfl
theorem gh_2109 : (Cond.selects RX12 yX12_formatNeeds yX12_formatNeeds) ∈ oa_GT := oa_g9 104 rfl rfl
theorem gh_2112 : (Cond.methodLink RL 345 yX12_formattedByte) ∈ oa_GT := oa_g9 107 rfl rfl
theorem gh_2113 : (Cond.instanceMethod yX12_formattedByte) ∈ oa_GT := oa_g9 108 rfl rfl
theorem gh_2114 : (Cond.selects RX12 yX12_formattedByte yX12_formattedByte) ∈ oa_GT := oa_g9 109 rfl rfl
set_option maxHeartbeats 4000000 in
set_option maxRecDepth 100000 in
theorem vc_L_law_23 {nS : Nat} {sc : Nat → Int32} {d rb : Nat} {h : Hp} {Qr : Option AV → Hp → Prop} {Qx : String → Hp → Prop} {x4 : Int32} (k : ((((Int32.ofNat nS) - 6) < x4) → Qr (some (vI 1)) h) ∧ ((¬ ((Int32.ofNat nS) - 6) < x4) → (vp_in x4 nS) ∧ ((((sc x4.toNatClampNeg) &&& 63) < 0 ∨ 56 < ((sc x4.toNatClampNeg) &&& 63)) → AW (oa_X nS sc) (d + 1) rb mL_law 3140 [(0, vR 2000 0), (1, vR 11 0), (2, vR 12 0), (3, vR 66 0), (4, vI x4)] [] h Qr Qx) ∧ ((((sc x4.toNatClampNeg) &&& 63) = 0) → AW (oa_X nS sc) (d + 1) rb mL_law 284 [(0, vR 2000 0), (1, vR 11 0), (2, vR 12 0), (3, vR 66 0), (4, vI x4)] [] h Qr Qx) ∧ ((((sc x4.toNatClampNeg) &&& 63) = 1) → AW (oa_X nS sc) (d + 1) rb mL_law 357 [(0, vR 2000 0), (1, vR 11 0), (2, vR 12 0), (3, vR 66 0), (4, vI x4)] [] h Qr Qx) ∧ ((((sc x4.toNatClampNeg) &&& 63) = 2) → AW (oa_X nS sc) (d + 1) rb mL_law 382 [(0, vR 2000 0), (1, vR 11 0), (2, vR 12 0), (3, vR 66 0), (4, vI x4)] [] h Qr Qx) ∧ ((((sc x4.toNatClampNeg) &&& 63) = 3) → AW (oa_X nS sc) (d + 1) rb mL_law 426 [(0, vR 2000 0), (1, vR 11 0), (2, vR 12 0), (3, vR 66 0), (4, vI x4)] [] h Qr Qx) ∧ ((((sc x4.toNatClampNeg) &&& 63) = 4) → AW (oa_X nS sc) (d + 1) rb mL_law 439 [(0, vR 2000 0), (1, vR 11 0), (2, vR 12 0), (3, vR 66 0), (4, vI x4)] [] h Qr Qx) ∧ ((((sc x4.toNatClampNeg) &&& 63) = 5) → AW (oa_X nS sc) (d + 1) rb mL_law 452 [(0, vR 2000 0), (1, vR 11 0), (2, vR 12 0), (3, vR 66 0), (4, vI x4)] [] h Qr Qx) ∧ ((((sc x4.toNatClampNeg) &&& 63) = 6) → AW (oa_X nS sc) (d + 1) rb mL_law 477 [(0, vR 2000 0), (1, vR 11 0), (2, vR 12 0), (3, vR 66 0), (4, vI x4)] [] h Qr Qx) ∧ ((((sc x4.toNatClampNeg) &&& 63) = 7) → AW (oa_X nS sc) (d + 1) rb mL_law 533 [(0, vR 2000 0), (1, vR 11 0), (2, vR 12 0), (3, vR 66 0), (4, vI x4)] [] h Qr Qx) ∧ ((((sc x4.toNatClampNeg) &&& 63) = 8) → AW (oa_X nS sc) (d + 1) rb mL_law 601 [(0, vR 2000 0), (1, vR 11 0), (2, vR 12 0), (3, vR 66 0), (4, vI x4)] [] h Qr Qx) ∧ ((((sc x4.toNatClampNeg) &&& 63) = 9) → AW (oa_X nS sc) (d + 1) rb mL_law 669 [(0, vR 2000 0), (1, vR 11 0), (2, vR 12 0), (3, vR 66 0), (4, vI x4)] [] h Qr Qx) ∧ ((((sc x4.toNatClampNeg) &&& 63) = 10) → AW (oa_X nS sc) (d + 1) rb mL_law 737 [(0, vR 2000 0), (1, vR 11 0), (2, vR 12 0), (3, vR 66 0), (4, vI x4)] [] h Qr Qx) ∧ ((((sc x4.toNatClampNeg) &&& 63) = 11) → AW (oa_X nS sc) (d + 1) rb mL_law 793 [(0, vR 2000 0), (1, vR 11 0), (2, vR 12 0), (3, vR 66 0), (4, vI x4)] [] h Qr Qx) ∧ ((((sc x4.toNatClampNeg) &&& 63) = 12) → AW (oa_X nS sc) (d + 1) rb mL_law 849 [(0, vR 2000 0), (1, vR 11 0), (2, vR 12 0), (3, vR 66 0), (4, vI x4)] [] h Qr Qx) ∧ ((((sc x4.toNatClampNeg) &&& 63) = 13) → AW (oa_X nS sc) (d + 1) rb mL_law 905 [(0, vR 2000 0), (1, vR 11 0), (2, vR 12 0), (3, vR 66 0), (4, vI x4)] [] h Qr Qx) ∧ ((((sc x4.toNatClampNeg) &&& 63) = 14) → AW (oa_X nS sc) (d + 1) rb mL_law 973 [(0, vR 2000 0), (1, vR 11 0), (2, vR 12 0), (3, vR 66 0), (4, vI x4)] [] h Qr Qx) ∧ ((((sc x4.toNatClampNeg) &&& 63) = 15) → AW (oa_X nS sc) (d + 1) rb mL_law 986 [(0, vR 2000 0), (1, vR 11 0), (2, vR 12 0), (3, vR 66 0), (4, vI x4)] [] h Qr Qx) ∧ ((((sc x4.toNatClampNeg) &&& 63) = 16) → AW (oa_X nS sc) (d + 1) rb mL_law 1042 [(0, vR 2000 0), (1, vR 11 0), (2, vR 12 0), (3, vR 66 0), (4, vI x4)] [] h Qr Qx) ∧ ((((sc x4.toNatClampNeg) &&& 63) = 17) → AW (oa_X nS sc) (d + 1) rb mL_law 1098 [(0, vR 2000 0), (1, vR 11 0), (2, vR 12 0), (3, vR 66 0), (4, vI x4)] [] h Qr Qx) ∧ ((((sc x4.toNatClampNeg) &&& 63) = 18) → AW (oa_X nS sc) (d + 1) rb mL_law 1154 [(0, vR 2000 0), (1, vR 11 0), (2, vR 12 0), (3, vR 66 0), (4, vI x4)] [] h Qr Qx) ∧ ((((sc x4.toNatClampNeg) &&& 63) = 19) → AW (oa_X nS sc) (d + 1) rb mL_law 1210 [(0, vR 2000 0), (1, vR 11 0), (2, vR 12 0), (3, vR 66 0), (4, vI x4)] [] h Qr Qx) ∧ ((((sc x4.toNatClampNeg) &&& 63) = 20) → AW (oa_X nS sc) (d + 1) rb mL_law 1266 [(0, vR 2000 0), (1, vR 11 0), (2, vR 12 0), (3, vR 66 0), (4, vI x4)] [] h Qr Qx) ∧ ((((sc x4.toNatClampNeg) &&& 63) = 21) → AW (oa_X nS sc) (d + 1) rb mL_law 1322 [(0, vR 2000 0), (1, vR 11 0), (2, vR 12 0), (3, vR 66 0), (4, vI x4)] [] h Qr Qx) ∧ ((((sc x4.toNatClampNeg) &&& 63) = 22) → AW (oa_X nS sc) (d + 1) rb mL_law 1390 [(0, vR 2000 0), (1, vR 11 0), (2, vR 12 0), (3, vR 66 0), (4, vI x4)] [] h Qr Qx) ∧ ((((sc x4.toNatClampNeg) &&& 63) = 23) → AW (oa_X nS sc) (d + 1) rb mL_law 1446 [(0, vR 2000 0), (1, vR 11 0), (2, vR 12 0), (3, vR 66 0), (4, vI x4)] [] h Qr Qx) ∧ ((((sc x4.toNatClampNeg) &&& 63) = 24) → AW (oa_X nS sc) (d + 1) rb mL_law 1502 [(0, vR 2000 0), (1, vR 11 0), (2, vR 12 0), (3, vR 66 0), (4, vI x4)] [] h Qr Qx) ∧ ((((sc x4.toNatClampNeg) &&& 63) = 25) → AW (oa_X nS sc) (d + 1) rb mL_law 1558 [(0, vR 2000 0), (1, vR 11 0), (2, vR 12 0), (3, vR 66 0), (4, vI x4)] [] h Qr Qx) ∧ ((((sc x4.toNatClampNeg) &&& 63) = 26) → AW (oa_X nS sc) (d + 1) rb mL_law 1614 [(0, vR 2000 0), (1, vR 11 0), (2, vR 12 0), (3, vR 66 0), (4, vI x4)] [] h Qr Qx) ∧ ((((sc x4.toNatClampNeg) &&& 63) = 27) → AW (oa_X nS sc) (d + 1) rb mL_law 1682 [(0, vR 2000 0), (1, vR 11 0), (2, vR 12 0), (3, vR 66 0), (4, vI x4)] [] h Qr Qx) ∧ ((((sc x4.toNatClampNeg) &&& 63) = 28) → AW (oa_X nS sc) (d + 1) rb mL_law 1750 [(0, vR 2000 0), (1, vR 11 0), (2, vR 12 0), (3, vR 66 0), (4, vI x4)] [] h Qr Qx) ∧ ((((sc x4.toNatClampNeg) &&& 63) = 29) → AW (oa_X nS sc) (d + 1) rb mL_law 1806 [(0, vR 2000 0), (1, vR 11 0), (2, vR 12 0), (3, vR 66 0), (4, vI x4)] [] h Qr Qx) ∧ ((((sc x4.toNatClampNeg) &&& 63) = 30) → AW (oa_X nS sc) (d + 1) rb mL_law 1819 [(0, vR 2000 0), (1, vR 11 0), (2, vR 12 0), (3, vR 66 0), (4, vI x4)] [] h Qr Qx) ∧ ((((sc x4.toNatClampNeg) &&& 63) = 31) → AW (oa_X nS sc) (d + 1) rb mL_law 1887 [(0, vR 2000 0), (1, vR 11 0), (2, vR 12 0), (3, vR 66 0), (4, vI x4)] [] h Qr Qx) ∧ ((((sc x4.toNatClampNeg) &&& 63) = 32) → AW (oa_X nS sc) (d + 1) rb mL_law 1943 [(0, vR 2000 0), (1, vR 11 0), (2, vR 12 0), (3, vR 66 0), (4, vI x4)] [] h Qr Qx) ∧ ((((sc x4.toNatClampNeg) &&& 63) = 33) → AW (oa_X nS sc) (d + 1) rb mL_law 1999 [(0, vR 2000 0), (1, vR 11 0), (2, vR 12 0), (3, vR 66 0), (4, vI x4)] [] h Qr Qx) ∧ ((((sc x4.toNatClampNeg) &&& 63) = 34) → AW (oa_X nS sc) (d + 1) rb mL_law 2012 [(0, vR 2000 0), (1, vR 11 0), (2, vR 12 0), (3, vR 66 0), (4, vI x4)] [] h Qr Qx) ∧ ((((sc x4.toNatClampNeg) &&& 63) = 35) → AW (oa_X nS sc) (d + 1) rb mL_law 2068 [(0, vR 2000 0), (1, vR 11 0), (2, vR 12 0), (3, vR 66 0), (4, vI x4)] [] h Qr Qx) ∧ ((((sc x4.toNatClampNeg) &&& 63) = 36) → AW (oa_X nS sc) (d + 1) rb mL_law 2124 [(0, vR 2000 0), (1, vR 11 0), (2, vR 12 0), (3, vR 66 0), (4, vI x4)] [] h Qr Qx) ∧ ((((sc x4.toNatClampNeg) &&& 63) = 37) → AW (oa_X nS sc) (d + 1) rb mL_law 2180 [(0, vR 2000 0), (1, vR 11 0), (2, vR 12 0), (3, vR 66 0), (4, vI x4)] [] h Qr Qx) ∧ ((((sc x4.toNatClampNeg) &&& 63) = 38) → AW (oa_X nS sc) (d + 1) rb mL_law 2236 [(0, vR 2000 0), (1, vR 11 0), (2, vR 12 0), (3, vR 66 0), (4, vI x4)] [] h Qr Qx) ∧ ((((sc x4.toNatClampNeg) &&& 63) = 39) → AW (oa_X nS sc) (d + 1) rb mL_law 2316 [(0, vR 2000 0), (1, vR 11 0), (2, vR 12 0), (3, vR 66 0), (4, vI x4)] [] h Qr Qx) ∧ ((((sc x4.toNatClampNeg) &&& 63) = 40) → AW (oa_X nS sc) (d + 1) rb mL_law 2329 [(0, vR 2000 0), (1, vR 11 0), (2, vR 12 0), (3, vR 66 0), (4, vI x4)] [] h Qr Qx) ∧ ((((sc x4.toNatClampNeg) &&& 63) = 41) → AW (oa_X nS sc) (d + 1) rb mL_law 2342 [(0, vR 2000 0), (1, vR 11 0), (2, vR 12 0), (3, vR 66 0), (4, vI x4)] [] h Qr Qx) ∧ ((((sc x4.toNatClampNeg) &&& 63) = 42) → AW (oa_X nS sc) (d + 1) rb mL_law 2462 [(0, vR 2000 0), (1, vR 11 0), (2, vR 12 0), (3, vR 66 0), (4, vI x4)] [] h Qr Qx) ∧ ((((sc x4.toNatClampNeg) &&& 63) = 43) → AW (oa_X nS sc) (d + 1) rb mL_law 2518 [(0, vR 2000 0), (1, vR 11 0), (2, vR 12 0), (3, vR 66 0), (4, vI x4)] [] h Qr Qx) ∧ ((((sc x4.toNatClampNeg) &&& 63) = 44) → AW (oa_X nS sc) (d + 1) rb mL_law 2586 [(0, vR 2000 0), (1, vR 11 0), (2, vR 12 0), (3, vR 66 0), (4, vI x4)] [] h Qr Qx) ∧ ((((sc x4.toNatClampNeg) &&& 63) = 45) → AW (oa_X nS sc) (d + 1) rb mL_law 2654 [(0, vR 2000 0), (1, vR 11 0), (2, vR 12 0), (3, vR 66 0), (4, vI x4)] [] h Qr Qx) ∧ ((((sc x4.toNatClampNeg) &&& 63) = 46) → AW (oa_X nS sc) (d + 1) rb mL_law 2667 [(0, vR 2000 0), (1, vR 11 0), (2, vR 12 0), (3, vR 66 0), (4, vI x4)] [] h Qr Qx) ∧ ((((sc x4.toNatClampNeg) &&& 63) = 47) → AW (oa_X nS sc) (d + 1) rb mL_law 2723 [(0, vR 2000 0), (1, vR 11 0), (2, vR 12 0), (3, vR 66 0), (4, vI x4)] [] h Qr Qx) ∧ ((((sc x4.toNatClampNeg) &&& 63) = 48) → AW (oa_X nS sc) (d + 1) rb mL_law 2791 [(0, vR 2000 0), (1, vR 11 0), (2, vR 12 0), (3, vR 66 0), (4, vI x4)] [] h Qr Qx) ∧ ((((sc x4.toNatClampNeg) &&& 63) = 49) → AW (oa_X nS sc) (d + 1) rb mL_law 2859 [(0, vR 2000 0), (1, vR 11 0), (2, vR 12 0), (3, vR 66 0), (4, vI x4)] [] h Qr Qx) ∧ ((((sc x4.toNatClampNeg) &&& 63) = 50) → AW (oa_X nS sc) (d + 1) rb mL_law 2915 [(0, vR 2000 0), (1, vR 11 0), (2, vR 12 0), (3, vR 66 0), (4, vI x4)] [] h Qr Qx) ∧ ((((sc x4.toNatClampNeg) &&& 63) = 51) → AW (oa_X nS sc) (d + 1) rb mL_law 2928 [(0, vR 2000 0), (1, vR 11 0), (2, vR 12 0), (3, vR 66 0), (4, vI x4)] [] h Qr Qx) ∧ ((((sc x4.toNatClampNeg) &&& 63) = 52) → AW (oa_X nS sc) (d + 1) rb mL_law 2941 [(0, vR 2000 0), (1, vR 11 0), (2, vR 12 0), (3, vR 66 0), (4, vI x4)] [] h Qr Qx) ∧ ((((sc x4.toNatClampNeg) &&& 63) = 53) → AW (oa_X nS sc) (d + 1) rb mL_law 2966 [(0, vR 2000 0), (1, vR 11 0), (2, vR 12 0), (3, vR 66 0), (4, vI x4)] [] h Qr Qx) ∧ ((((sc x4.toNatClampNeg) &&& 63) = 54) → AW (oa_X nS sc) (d + 1) rb mL_law 3003 [(0, vR 2000 0), (1, vR 11 0), (2, vR 12 0), (3, vR 66 0), (4, vI x4)] [] h Qr Qx) ∧ ((((sc x4.toNatClampNeg) &&& 63) = 55) → AW (oa_X nS sc) (d + 1) rb mL_law 3059 [(0, vR 2000 0), (1, vR 11 0), (2, vR 12 0), (3, vR 66 0), (4, vI x4)] [] h Qr Qx) ∧ ((((sc x4.toNatClampNeg) &&& 63) = 56) → AW (oa_X nS sc) (d + 1) rb mL_law 3115 [(0, vR 2000 0), (1, vR 11 0), (2, vR 12 0), (3, vR 66 0), (4, vI x4)] [] h Qr Qx))) : AW (oa_X nS sc) (d + 1) rb mL_law 23 [(0, vR 2000 0), (1, vR 11 0), (2, vR 12 0), (3, vR 66 0), (4, vI x4)] [] h Qr Qx := by
  refine aw_iload (j := 4) (i := 4) dL_law_23 rfl rfl ?_
  refine aw_aload_n (j := 0) (i := 0) dL_law_25 rfl rfl rfl ?_
  refine aw_slenX dL_law_26 rfl ?_
  refine aw_bipush (v := 6) dL_law_27 rfl (by decide) ?_
  refine aw_isub dL_law_29 rfl ?_
  refine aw_icmp_gt 3146 dL_law_30 rfl rfl (fun c => ?_) (fun c => ?_)
  · replace k := k.1 c
    refine aw_iconst (v := 1) dL_law_3146 rfl (by decide) ?_
    exact aw_zret dL_law_3147 rfl (by decide) k
  · replace k := k.2 c
    refine aw_aload_n (j := 0) (i := 0) dL_law_33 rfl rfl rfl ?_
    refine aw_iload (j := 4) (i := 4) dL_law_34 rfl rfl ?_
    refine aw_sldX dL_law_36 rfl k.1 ?_
    replace k := k.2
    refine aw_bipush (v := 63) dL_law_37 rfl (by decide) ?_
    refine aw_iand dL_law_39 rfl ?_
    rcases oa_sw 56 (by decide) ((sc x4.toNatClampNeg) &&& 63) with hz | ⟨jj, hj, hz⟩
    · replace k := k.1 hz
      refine aw_tabOut 3140 dL_law_40 (oa_swo rfl hz) rfl ?_
      exact AW.mono (Nat.le_refl _) (by omega) (aw_sub [0, 1, 2, 3, 4] rfl k)
    · replace k := k.2
      rcases (show jj = 0 ∨ jj = 1 ∨ jj = 2 ∨ jj = 3 ∨ jj = 4 ∨ jj = 5 ∨ jj = 6 ∨ jj = 7 ∨ jj = 8 ∨ jj = 9 ∨ jj = 10 ∨ jj = 11 ∨ jj = 12 ∨ jj = 13 ∨ jj = 14 ∨ jj = 15 ∨ jj = 16 ∨ jj = 17 ∨ jj = 18 ∨ jj = 19 ∨ jj = 20 ∨ jj = 21 ∨ jj = 22 ∨ jj = 23 ∨ jj = 24 ∨ jj = 25 ∨ jj = 26 ∨ jj = 27 ∨ jj = 28 ∨ jj = 29 ∨ jj = 30 ∨ jj = 31 ∨ jj = 32 ∨ jj = 33 ∨ jj = 34 ∨ jj = 35 ∨ jj = 36 ∨ jj = 37 ∨ jj = 38 ∨ jj = 39 ∨ jj = 40 ∨ jj = 41 ∨ jj = 42 ∨ jj = 43 ∨ jj = 44 ∨ jj = 45 ∨ jj = 46 ∨ jj = 47 ∨ jj = 48 ∨ jj = 49 ∨ jj = 50 ∨ jj = 51 ∨ jj = 52 ∨ jj = 53 ∨ jj = 54 ∨ jj = 55 ∨ jj = 56 by omega) with rfl | rfl | rfl | rfl | rfl | rfl | rfl | rfl | rfl | rfl | rfl | rfl | rfl | rfl | rfl | rfl | rfl | rfl | rfl | rfl | rfl | rfl | rfl | rfl | rfl | rfl | rfl | rfl | rfl | rfl | rfl | rfl | rfl | rfl | rfl | rfl | rfl | rfl | rfl | rfl | rfl | rfl | rfl | rfl | rfl | rfl | rfl | rfl | rfl | rfl | rfl | rfl | rfl | rfl | rfl | rfl | rfl
      · replace hz : ((sc x4.toNatClampNeg) &&& 63) = 0 := hz
        replace k := k.1 hz
        refine aw_tabIn (z := 244) 284 dL_law_40 (by rw [hz]; decide) (by rw [hz]; decide) (by rw [hz]; rfl) rfl ?_
        exact AW.mono (Nat.le_refl _) (by omega) (aw_sub [0, 1, 2, 3, 4] rfl k)
      · replace hz : ((sc x4.toNatClampNeg) &&& 63) = 1 := hz
        replace k := k.2.1 hz
        refine aw_tabIn (z := 317) 357 dL_law_40 (by rw [hz]; decide) (by rw [hz]; decide) (by rw [hz]; rfl) rfl ?_
        exact AW.mono (Nat.le_refl _) (by omega) (aw_sub [0, 1, 2, 3, 4] rfl k)
      · replace hz : ((sc x4.toNatClampNeg) &&& 63) = 2 := hz
        replace k := k.2.2.1 hz
        refine aw_tabIn (z := 342) 382 dL_law_40 (by rw [hz]; decide) (by rw [hz]; decide) (by rw [hz]; rfl) rfl ?_
        exact AW.mono (Nat.le_refl _) (by omega) (aw_sub [0, 1, 2, 3, 4] rfl k)
      · replace hz : ((sc x4.toNatClampNeg) &&& 63) = 3 := hz
        replace k := k.2.2.2.1 hz
        refine aw_tabIn (z := 386) 426 dL_law_40 (by rw [hz]; decide) (by rw [hz]; decide) (by rw [hz]; rfl) rfl ?_
        exact AW.mono (Nat.le_refl _) (by omega) (aw_sub [0, 1, 2, 3, 4] rfl k)
      · replace hz : ((sc x4.toNatClampNeg) &&& 63) = 4 := hz
        replace k := k.2.2.2.2.1 hz
        refine aw_tabIn (z := 399) 439 dL_law_40 (by rw [hz]; decide) (by rw [hz]; decide) (by rw [hz]; rfl) rfl ?_
        exact AW.mono (Nat.le_refl _) (by omega) (aw_sub [0, 1, 2, 3, 4] rfl k)
      · replace hz : ((sc x4.toNatClampNeg) &&& 63) = 5 := hz
        replace k := k.2.2.2.2.2.1 hz
        refine aw_tabIn (z := 412) 452 dL_law_40 (by rw [hz]; decide) (by rw [hz]; decide) (by rw [hz]; rfl) rfl ?_
        exact AW.mono (Nat.le_refl _) (by omega) (aw_sub [0, 1, 2, 3, 4] rfl k)
      · replace hz : ((sc x4.toNatClampNeg) &&& 63) = 6 := hz
        replace k := k.2.2.2.2.2.2.1 hz
        refine aw_tabIn (z := 437) 477 dL_law_40 (by rw [hz]; decide) (by rw [hz]; decide) (by rw [hz]; rfl) rfl ?_
        exact AW.mono (Nat.le_refl _) (by omega) (aw_sub [0, 1, 2, 3, 4] rfl k)
      · replace hz : ((sc x4.toNatClampNeg) &&& 63) = 7 := hz
        replace k := k.2.2.2.2.2.2.2.1 hz
        refine aw_tabIn (z := 493) 533 dL_law_40 (by rw [hz]; decide) (by rw [hz]; decide) (by rw [hz]; rfl) rfl ?_
        exact AW.mono (Nat.le_refl _) (by omega) (aw_sub [0, 1, 2, 3, 4] rfl k)
      · replace hz : ((sc x4.toNatClampNeg) &&& 63) = 8 := hz
        replace k := k.2.2.2.2.2.2.2.2.1 hz
        refine aw_tabIn (z := 561) 601 dL_law_40 (by rw [hz]; decide) (by rw [hz]; decide) (by rw [hz]; rfl) rfl ?_
        exact AW.mono (Nat.le_refl _) (by omega) (aw_sub [0, 1, 2, 3, 4] rfl k)
      · replace hz : ((sc x4.toNatClampNeg) &&& 63) = 9 := hz
        replace k := k.2.2.2.2.2.2.2.2.2.1 hz
        refine aw_tabIn (z := 629) 669 dL_law_40 (by rw [hz]; decide) (by rw [hz]; decide) (by rw [hz]; rfl) rfl ?_
        exact AW.mono (Nat.le_refl _) (by omega) (aw_sub [0, 1, 2, 3, 4] rfl k)
      · replace hz : ((sc x4.toNatClampNeg) &&& 63) = 10 := hz
        replace k := k.2.2.2.2.2.2.2.2.2.2.1 hz
        refine aw_tabIn (z := 697) 737 dL_law_40 (by rw [hz]; decide) (by rw [hz]; decide) (by rw [hz]; rfl) rfl ?_
        exact AW.mono (Nat.le_refl _) (by omega) (aw_sub [0, 1, 2, 3, 4] rfl k)
      · replace hz : ((sc x4.toNatClampNeg) &&& 63) = 11 := hz
        replace k := k.2.2.2.2.2.2.2.2.2.2.2.1 hz
        refine aw_tabIn (z := 753) 793 dL_law_40 (by rw [hz]; decide) (by rw [hz]; decide) (by rw [hz]; rfl) rfl ?_
        exact AW.mono (Nat.le_refl _) (by omega) (aw_sub [0, 1, 2, 3, 4] rfl k)
      · replace hz : ((sc x4.toNatClampNeg) &&& 63) = 12 := hz
        replace k := k.2.2.2.2.2.2.2.2.2.2.2.2.1 hz
        refine aw_tabIn (z := 809) 849 dL_law_40 (by rw [hz]; decide) (by rw [hz]; decide) (by rw [hz]; rfl) rfl ?_
        exact AW.mono (Nat.le_refl _) (by omega) (aw_sub [0, 1, 2, 3, 4] rfl k)
      · replace hz : ((sc x4.toNatClampNeg) &&& 63) = 13 := hz
        replace k := k.2.2.2.2.2.2.2.2.2.2.2.2.2.1 hz
        refine aw_tabIn (z := 865) 905 dL_law_40 (by rw [hz]; decide) (by rw [hz]; decide) (by rw [hz]; rfl) rfl ?_
        exact AW.mono (Nat.le_refl _) (by omega) (aw_sub [0, 1, 2, 3, 4] rfl k)
      · replace hz : ((sc x4.toNatClampNeg) &&& 63) = 14 := hz
        replace k := k.2.2.2.2.2.2.2.2.2.2.2.2.2.2.1 hz
        refine aw_tabIn (z := 933) 973 dL_law_40 (by rw [hz]; decide) (by rw [hz]; decide) (by rw [hz]; rfl) rfl ?_
        exact AW.mono (Nat.le_refl _) (by omega) (aw_sub [0, 1, 2, 3, 4] rfl k)
      · replace hz : ((sc x4.toNatClampNeg) &&& 63) = 15 := hz
        replace k := k.2.2.2.2.2.2.2.2.2.2.2.2.2.2.2.1 hz
        refine aw_tabIn (z := 946) 986 dL_law_40 (by rw [hz]; decide) (by rw [hz]; decide) (by rw [hz]; rfl) rfl ?_
        exact AW.mono (Nat.le_refl _) (by omega) (aw_sub [0, 1, 2, 3, 4] rfl k)
      · replace hz : ((sc x4.toNatClampNeg) &&& 63) = 16 := hz
        replace k := k.2.2.2.2.2.2.2.2.2.2.2.2.2.2.2.2.1 hz
        refine aw_tabIn (z := 1002) 1042 dL_law_40 (by rw [hz]; decide) (by rw [hz]; decide) (by rw [hz]; rfl) rfl ?_
        exact AW.mono (Nat.le_refl _) (by omega) (aw_sub [0, 1, 2, 3, 4] rfl k)
      · replace hz : ((sc x4.toNatClampNeg) &&& 63) = 17 := hz
        replace k := k.2.2.2.2.2.2.2.2.2.2.2.2.2.2.2.2.2.1 hz
        refine aw_tabIn (z := 1058) 1098 dL_law_40 (by rw [hz]; decide) (by rw [hz]; decide) (by rw [hz]; rfl) rfl ?_
        exact AW.mono (Nat.le_refl _) (by omega) (aw_sub [0, 1, 2, 3, 4] rfl k)
      · replace hz : ((sc x4.toNatClampNeg) &&& 63) = 18 := hz
        replace k := k.2.2.2.2.2.2.2.2.2.2.2.2.2.2.2.2.2.2.1 hz
        refine aw_tabIn (z := 1114) 1154 dL_law_40 (by rw [hz]; decide) (by rw [hz]; decide) (by rw [hz]; rfl) rfl ?_
        exact AW.mono (Nat.le_refl _) (by omega) (aw_sub [0, 1, 2, 3, 4] rfl k)
      · replace hz : ((sc x4.toNatClampNeg) &&& 63) = 19 := hz
        replace k := k.2.2.2.2.2.2.2.2.2.2.2.2.2.2.2.2.2.2.2.1 hz
        refine aw_tabIn (z := 1170) 1210 dL_law_40 (by rw [hz]; decide) (by rw [hz]; decide) (by rw [hz]; rfl) rfl ?_
        exact AW.mono (Nat.le_refl _) (by omega) (aw_sub [0, 1, 2, 3, 4] rfl k)
      · replace hz : ((sc x4.toNatClampNeg) &&& 63) = 20 := hz
        replace k := k.2.2.2.2.2.2.2.2.2.2.2.2.2.2.2.2.2.2.2.2.1 hz
        refine aw_tabIn (z := 1226) 1266 dL_law_40 (by rw [hz]; decide) (by rw [hz]; decide) (by rw [hz]; rfl) rfl ?_
        exact AW.mono (Nat.le_refl _) (by omega) (aw_sub [0, 1, 2, 3, 4] rfl k)
      · replace hz : ((sc x4.toNatClampNeg) &&& 63) = 21 := hz
        replace k := k.2.2.2.2.2.2.2.2.2.2.2.2.2.2.2.2.2.2.2.2.2.1 hz
        refine aw_tabIn (z := 1282) 1322 dL_law_40 (by rw [hz]; decide) (by rw [hz]; decide) (by rw [hz]; rfl) rfl ?_
        exact AW.mono (Nat.le_refl _) (by omega) (aw_sub [0, 1, 2, 3, 4] rfl k)
      · replace hz : ((sc x4.toNatClampNeg) &&& 63) = 22 := hz
        replace k := k.2.2.2.2.2.2.2.2.2.2.2.2.2.2.2.2.2.2.2.2.2.2.1 hz
        refine aw_tabIn (z := 1350) 1390 dL_law_40 (by rw [hz]; decide) (by rw [hz]; decide) (by rw [hz]; rfl) rfl ?_
        exact AW.mono (Nat.le_refl _) (by omega) (aw_sub [0, 1, 2, 3, 4] rfl k)
      · replace hz : ((sc x4.toNatClampNeg) &&& 63) = 23 := hz
        replace k := k.2.2.2.2.2.2.2.2.2.2.2.2.2.2.2.2.2.2.2.2.2.2.2.1 hz
        refine aw_tabIn (z := 1406) 1446 dL_law_40 (by rw [hz]; decide) (by rw [hz]; decide) (by rw [hz]; rfl) rfl ?_
        exact AW.mono (Nat.le_refl _) (by omega) (aw_sub [0, 1, 2, 3, 4] rfl k)
      · replace hz : ((sc x4.toNatClampNeg) &&& 63) = 24 := hz
        replace k := k.2.2.2.2.2.2.2.2.2.2.2.2.2.2.2.2.2.2.2.2.2.2.2.2.1 hz
        refine aw_tabIn (z := 1462) 1502 dL_law_40 (by rw [hz]; decide) (by rw [hz]; decide) (by rw [hz]; rfl) rfl ?_
        exact AW.mono (Nat.le_refl _) (by omega) (aw_sub [0, 1, 2, 3, 4] rfl k)
      · replace hz : ((sc x4.toNatClampNeg) &&& 63) = 25 := hz
        replace k := k.2.2.2.2.2.2.2.2.2.2.2.2.2.2.2.2.2.2.2.2.2.2.2.2.2.1 hz
        refine aw_tabIn (z := 1518) 1558 dL_law_40 (by rw [hz]; decide) (by rw [hz]; decide) (by rw [hz]; rfl) rfl ?_
        exact AW.mono (Nat.le_refl _) (by omega) (aw_sub [0, 1, 2, 3, 4] rfl k)
      · replace hz : ((sc x4.toNatClampNeg) &&& 63) = 26 := hz
        replace k := k.2.2.2.2.2.2.2.2.2.2.2.2.2.2.2.2.2.2.2.2.2.2.2.2.2.2.1 hz
        refine aw_tabIn (z := 1574) 1614 dL_law_40 (by rw [hz]; decide) (by rw [hz]; decide) (by rw [hz]; rfl) rfl ?_
        exact AW.mono (Nat.le_refl _) (by omega) (aw_sub [0, 1, 2, 3, 4] rfl k)
      · replace hz : ((sc x4.toNatClampNeg) &&& 63) = 27 := hz
        replace k := k.2.2.2.2.2.2.2.2.2.2.2.2.2.2.2.2.2.2.2.2.2.2.2.2.2.2.2.1 hz
        refine aw_tabIn (z := 1642) 1682 dL_law_40 (by rw [hz]; decide) (by rw [hz]; decide) (by rw [hz]; rfl) rfl ?_
        exact AW.mono (Nat.le_refl _) (by omega) (aw_sub [0, 1, 2, 3, 4] rfl k)
      · replace hz : ((sc x4.toNatClampNeg) &&& 63) = 28 := hz
        replace k := k.2.2.2.2.2.2.2.2.2.2.2.2.2.2.2.2.2.2.2.2.2.2.2.2.2.2.2.2.1 hz
        refine aw_tabIn (z := 1710) 1750 dL_law_40 (by rw [hz]; decide) (by rw [hz]; decide) (by rw [hz]; rfl) rfl ?_
        exact AW.mono (Nat.le_refl _) (by omega) (aw_sub [0, 1, 2, 3, 4] rfl k)
      · replace hz : ((sc x4.toNatClampNeg) &&& 63) = 29 := hz
        replace k := k.2.2.2.2.2.2.2.2.2.2.2.2.2.2.2.2.2.2.2.2.2.2.2.2.2.2.2.2.2.1 hz
        refine aw_tabIn (z := 1766) 1806 dL_law_40 (by rw [hz]; decide) (by rw [hz]; decide) (by rw [hz]; rfl) rfl ?_
        exact AW.mono (Nat.le_refl _) (by omega) (aw_sub [0, 1, 2, 3, 4] rfl k)
      · replace hz : ((sc x4.toNatClampNeg) &&& 63) = 30 := hz
        replace k := k.2.2.2.2.2.2.2.2.2.2.2.2.2.2.2.2.2.2.2.2.2.2.2.2.2.2.2.2.2.2.1 hz
        refine aw_tabIn (z := 1779) 1819 dL_law_40 (by rw [hz]; decide) (by rw [hz]; decide) (by rw [hz]; rfl) rfl ?_
        exact AW.mono (Nat.le_refl _) (by omega) (aw_sub [0, 1, 2, 3, 4] rfl k)
      · replace hz : ((sc x4.toNatClampNeg) &&& 63) = 31 := hz
        replace k := k.2.2.2.2.2.2.2.2.2.2.2.2.2.2.2.2.2.2.2.2.2.2.2.2.2.2.2.2.2.2.2.1 hz
        refine aw_tabIn (z := 1847) 1887 dL_law_40 (by rw [hz]; decide) (by rw [hz]; decide) (by rw [hz]; rfl) rfl ?_
        exact AW.mono (Nat.le_refl _) (by omega) (aw_sub [0, 1, 2, 3, 4] rfl k)
      · replace hz : ((sc x4.toNatClampNeg) &&& 63) = 32 := hz
        replace k := k.2.2.2.2.2.2.2.2.2.2.2.2.2.2.2.2.2.2.2.2.2.2.2.2.2.2.2.2.2.2.2.2.1 hz
        refine aw_tabIn (z := 1903) 1943 dL_law_40 (by rw [hz]; decide) (by rw [hz]; decide) (by rw [hz]; rfl) rfl ?_
        exact AW.mono (Nat.le_refl _) (by omega) (aw_sub [0, 1, 2, 3, 4] rfl k)
      · replace hz : ((sc x4.toNatClampNeg) &&& 63) = 33 := hz
        replace k := k.2.2.2.2.2.2.2.2.2.2.2.2.2.2.2.2.2.2.2.2.2.2.2.2.2.2.2.2.2.2.2.2.2.1 hz
        refine aw_tabIn (z := 1959) 1999 dL_law_40 (by rw [hz]; decide) (by rw [hz]; decide) (by rw [hz]; rfl) rfl ?_
        exact AW.mono (Nat.le_refl _) (by omega) (aw_sub [0, 1, 2, 3, 4] rfl k)
      · replace hz : ((sc x4.toNatClampNeg) &&& 63) = 34 := hz
        replace k := k.2.2.2.2.2.2.2.2.2.2.2.2.2.2.2.2.2.2.2.2.2.2.2.2.2.2.2.2.2.2.2.2.2.2.1 hz
        refine aw_tabIn (z := 1972) 2012 dL_law_40 (by rw [hz]; decide) (by rw [hz]; decide) (by rw [hz]; rfl) rfl ?_
        exact AW.mono (Nat.le_refl _) (by omega) (aw_sub [0, 1, 2, 3, 4] rfl k)
      · replace hz : ((sc x4.toNatClampNeg) &&& 63) = 35 := hz
        replace k := k.2.2.2.2.2.2.2.2.2.2.2.2.2.2.2.2.2.2.2.2.2.2.2.2.2.2.2.2.2.2.2.2.2.2.2.1 hz
        refine aw_tabIn (z := 2028) 2068 dL_law_40 (by rw [hz]; decide) (by rw [hz]; decide) (by rw [hz]; rfl) rfl ?_
        exact AW.mono (Nat.le_refl _) (by omega) (aw_sub [0, 1, 2, 3, 4] rfl k)
      · replace hz : ((sc x4.toNatClampNeg) &&& 63) = 36 := hz
        replace k := k.2.2.2.2.2.2.2.2.2.2.2.2.2.2.2.2.2.2.2.2.2.2.2.2.2.2.2.2.2.2.2.2.2.2.2.2.1 hz
        refine aw_tabIn (z := 2084) 2124 dL_law_40 (by rw [hz]; decide) (by rw [hz]; decide) (by rw [hz]; rfl) rfl ?_
        exact AW.mono (Nat.le_refl _) (by omega) (aw_sub [0, 1, 2, 3, 4] rfl k)
      · replace hz : ((sc x4.toNatClampNeg) &&& 63) = 37 := hz
        replace k := k.2.2.2.2.2.2.2.2.2.2.2.2.2.2.2.2.2.2.2.2.2.2.2.2.2.2.2.2.2.2.2.2.2.2.2.2.2.1 hz
        refine aw_tabIn (z := 2140) 2180 dL_law_40 (by rw [hz]; decide) (by rw [hz]; decide) (by rw [hz]; rfl) rfl ?_
        exact AW.mono (Nat.le_refl _) (by omega) (aw_sub [0, 1, 2, 3, 4] rfl k)
      · replace hz : ((sc x4.toNatClampNeg) &&& 63) = 38 := hz
        replace k := k.2.2.2.2.2.2.2.2.2.2.2.2.2.2.2.2.2.2.2.2.2.2.2.2.2.2.2.2.2.2.2.2.2.2.2.2.2.2.1 hz
        refine aw_tabIn (z := 2196) 2236 dL_law_40 (by rw [hz]; decide) (by rw [hz]; decide) (by rw [hz]; rfl) rfl ?_
        exact AW.mono (Nat.le_refl _) (by omega) (aw_sub [0, 1, 2, 3, 4] rfl k)
      · replace hz : ((sc x4.toNatClampNeg) &&& 63) = 39 := hz
        replace k := k.2.2.2.2.2.2.2.2.2.2.2.2.2.2.2.2.2.2.2.2.2.2.2.2.2.2.2.2.2.2.2.2.2.2.2.2.2.2.2.1 hz
        refine aw_tabIn (z := 2276) 2316 dL_law_40 (by rw [hz]; decide) (by rw [hz]; decide) (by rw [hz]; rfl) rfl ?_
        exact AW.mono (Nat.le_refl _) (by omega) (aw_sub [0, 1, 2, 3, 4] rfl k)
      · replace hz : ((sc x4.toNatClampNeg) &&& 63) = 40 := hz
        replace k := k.2.2.2.2.2.2.2.2.2.2.2.2.2.2.2.2.2.2.2.2.2.2.2.2.2.2.2.2.2.2.2.2.2.2.2.2.2.2.2.2.1 hz
        refine aw_tabIn (z := 2289) 2329 dL_law_40 (by rw [hz]; decide) (by rw [hz]; decide) (by rw [hz]; rfl) rfl ?_
        exact AW.mono (Nat.le_refl _) (by omega) (aw_sub [0, 1, 2, 3, 4] rfl k)
      · replace hz : ((sc x4.toNatClampNeg) &&& 63) = 41 := hz
        replace k := k.2.2.2.2.2.2.2.2.2.2.2.2.2.2.2.2.2.2.2.2.2.2.2.2.2.2.2.2.2.2.2.2.2.2.2.2.2.2.2.2.2.1 hz
        refine aw_tabIn (z := 2302) 2342 dL_law_40 (by rw [hz]; decide) (by rw [hz]; decide) (by rw [hz]; rfl) rfl ?_
        exact AW.mono (Nat.le_refl _) (by omega) (aw_sub [0, 1, 2, 3, 4] rfl k)
      · replace hz : ((sc x4.toNatClampNeg) &&& 63) = 42 := hz
        replace k := k.2.2.2.2.2.2.2.2.2.2.2.2.2.2.2.2.2.2.2.2.2.2.2.2.2.2.2.2.2.2.2.2.2.2.2.2.2.2.2.2.2.2.1 hz
        refine aw_tabIn (z := 2422) 2462 dL_law_40 (by rw [hz]; decide) (by rw [hz]; decide) (by rw [hz]; rfl) rfl ?_
        exact AW.mono (Nat.le_refl _) (by omega) (aw_sub [0, 1, 2, 3, 4] rfl k)
      · replace hz : ((sc x4.toNatClampNeg) &&& 63) = 43 := hz
        replace k := k.2.2.2.2.2.2.2.2.2.2.2.2.2.2.2.2.2.2.2.2.2.2.2.2.2.2.2.2.2.2.2.2.2.2.2.2.2.2.2.2.2.2.2.1 hz
        refine aw_tabIn (z := 2478) 2518 dL_law_40 (by rw [hz]; decide) (by rw [hz]; decide) (by rw [hz]; rfl) rfl ?_
        exact AW.mono (Nat.le_refl _) (by omega) (aw_sub [0, 1, 2, 3, 4] rfl k)
      · replace hz : ((sc x4.toNatClampNeg) &&& 63) = 44 := hz
        replace k := k.2.2.2.2.2.2.2.2.2.2.2.2.2.2.2.2.2.2.2.2.2.2.2.2.2.2.2.2.2.2.2.2.2.2.2.2.2.2.2.2.2.2.2.2.1 hz
        refine aw_tabIn (z := 2546) 2586 dL_law_40 (by rw [hz]; decide) (by rw [hz]; decide) (by rw [hz]; rfl) rfl ?_
        exact AW.mono (Nat.le_refl _) (by omega) (aw_sub [0, 1, 2, 3, 4] rfl k)
      · replace hz : ((sc x4.toNatClampNeg) &&& 63) = 45 := hz
        replace k := k.2.2.2.2.2.2.2.2.2.2.2.2.2.2.2.2.2.2.2.2.2.2.2.2.2.2.2.2.2.2.2.2.2.2.2.2.2.2.2.2.2.2.2.2.2.1 hz
        refine aw_tabIn (z := 2614) 2654 dL_law_40 (by rw [hz]; decide) (by rw [hz]; decide) (by rw [hz]; rfl) rfl ?_
        exact AW.mono (Nat.le_refl _) (by omega) (aw_sub [0, 1, 2, 3, 4] rfl k)
      · replace hz : ((sc x4.toNatClampNeg) &&& 63) = 46 := hz
        replace k := k.2.2.2.2.2.2.2.2.2.2.2.2.2.2.2.2.2.2.2.2.2.2.2.2.2.2.2.2.2.2.2.2.2.2.2.2.2.2.2.2.2.2.2.2.2.2.1 hz
        refine aw_tabIn (z := 2627) 2667 dL_law_40 (by rw [hz]; decide) (by rw [hz]; decide) (by rw [hz]; rfl) rfl ?_
        exact AW.mono (Nat.le_refl _) (by omega) (aw_sub [0, 1, 2, 3, 4] rfl k)
      · replace hz : ((sc x4.toNatClampNeg) &&& 63) = 47 := hz
        replace k := k.2.2.2.2.2.2.2.2.2.2.2.2.2.2.2.2.2.2.2.2.2.2.2.2.2.2.2.2.2.2.2.2.2.2.2.2.2.2.2.2.2.2.2.2.2.2.2.1 hz
        refine aw_tabIn (z := 2683) 2723 dL_law_40 (by rw [hz]; decide) (by rw [hz]; decide) (by rw [hz]; rfl) rfl ?_
        exact AW.mono (Nat.le_refl _) (by omega) (aw_sub [0, 1, 2, 3, 4] rfl k)
      · replace hz : ((sc x4.toNatClampNeg) &&& 63) = 48 := hz
        replace k := k.2.2.2.2.2.2.2.2.2.2.2.2.2.2.2.2.2.2.2.2.2.2.2.2.2.2.2.2.2.2.2.2.2.2.2.2.2.2.2.2.2.2.2.2.2.2.2.2.1 hz
        refine aw_tabIn (z := 2751) 2791 dL_law_40 (by rw [hz]; decide) (by rw [hz]; decide) (by rw [hz]; rfl) rfl ?_
        exact AW.mono (Nat.le_refl _) (by omega) (aw_sub [0, 1, 2, 3, 4] rfl k)
      · replace hz : ((sc x4.toNatClampNeg) &&& 63) = 49 := hz
        replace k := k.2.2.2.2.2.2.2.2.2.2.2.2.2.2.2.2.2.2.2.2.2.2.2.2.2.2.2.2.2.2.2.2.2.2.2.2.2.2.2.2.2.2.2.2.2.2.2.2.2.1 hz
        refine aw_tabIn (z := 2819) 2859 dL_law_40 (by rw [hz]; decide) (by rw [hz]; decide) (by rw [hz]; rfl) rfl ?_
        exact AW.mono (Nat.le_refl _) (by omega) (aw_sub [0, 1, 2, 3, 4] rfl k)
      · replace hz : ((sc x4.toNatClampNeg) &&& 63) = 50 := hz
        replace k := k.2.2.2.2.2.2.2.2.2.2.2.2.2.2.2.2.2.2.2.2.2.2.2.2.2.2.2.2.2.2.2.2.2.2.2.2.2.2.2.2.2.2.2.2.2.2.2.2.2.2.1 hz
        refine aw_tabIn (z := 2875) 2915 dL_law_40 (by rw [hz]; decide) (by rw [hz]; decide) (by rw [hz]; rfl) rfl ?_
        exact AW.mono (Nat.le_refl _) (by omega) (aw_sub [0, 1, 2, 3, 4] rfl k)
      · replace hz : ((sc x4.toNatClampNeg) &&& 63) = 51 := hz
        replace k := k.2.2.2.2.2.2.2.2.2.2.2.2.2.2.2.2.2.2.2.2.2.2.2.2.2.2.2.2.2.2.2.2.2.2.2.2.2.2.2.2.2.2.2.2.2.2.2.2.2.2.2.1 hz
        refine aw_tabIn (z := 2888) 2928 dL_law_40 (by rw [hz]; decide) (by rw [hz]; decide) (by rw [hz]; rfl) rfl ?_
        exact AW.mono (Nat.le_refl _) (by omega) (aw_sub [0, 1, 2, 3, 4] rfl k)
      · replace hz : ((sc x4.toNatClampNeg) &&& 63) = 52 := hz
        replace k := k.2.2.2.2.2.2.2.2.2.2.2.2.2.2.2.2.2.2.2.2.2.2.2.2.2.2.2.2.2.2.2.2.2.2.2.2.2.2.2.2.2.2.2.2.2.2.2.2.2.2.2.2.1 hz
        refine aw_tabIn (z := 2901) 2941 dL_law_40 (by rw [hz]; decide) (by rw [hz]; decide) (by rw [hz]; rfl) rfl ?_
        exact AW.mono (Nat.le_refl _) (by omega) (aw_sub [0, 1, 2, 3, 4] rfl k)
      · replace hz : ((sc x4.toNatClampNeg) &&& 63) = 53 := hz
        replace k := k.2.2.2.2.2.2.2.2.2.2.2.2.2.2.2.2.2.2.2.2.2.2.2.2.2.2.2.2.2.2.2.2.2.2.2.2.2.2.2.2.2.2.2.2.2.2.2.2.2.2.2.2.2.1 hz
        refine aw_tabIn (z := 2926) 2966 dL_law_40 (by rw [hz]; decide) (by rw [hz]; decide) (by rw [hz]; rfl) rfl ?_
        exact AW.mono (Nat.le_refl _) (by omega) (aw_sub [0, 1, 2, 3, 4] rfl k)
      · replace hz : ((sc x4.toNatClampNeg) &&& 63) = 54 := hz
        replace k := k.2.2.2.2.2.2.2.2.2.2.2.2.2.2.2.2.2.2.2.2.2.2.2.2.2.2.2.2.2.2.2.2.2.2.2.2.2.2.2.2.2.2.2.2.2.2.2.2.2.2.2.2.2.2.1 hz
        refine aw_tabIn (z := 2963) 3003 dL_law_40 (by rw [hz]; decide) (by rw [hz]; decide) (by rw [hz]; rfl) rfl ?_
        exact AW.mono (Nat.le_refl _) (by omega) (aw_sub [0, 1, 2, 3, 4] rfl k)
      · replace hz : ((sc x4.toNatClampNeg) &&& 63) = 55 := hz
        replace k := k.2.2.2.2.2.2.2.2.2.2.2.2.2.2.2.2.2.2.2.2.2.2.2.2.2.2.2.2.2.2.2.2.2.2.2.2.2.2.2.2.2.2.2.2.2.2.2.2.2.2.2.2.2.2.2.1 hz
        refine aw_tabIn (z := 3019) 3059 dL_law_40 (by rw [hz]; decide) (by rw [hz]; decide) (by rw [hz]; rfl) rfl ?_
        exact AW.mono (Nat.le_refl _) (by omega) (aw_sub [0, 1, 2, 3, 4] rfl k)
      · replace hz : ((sc x4.toNatClampNeg) &&& 63) = 56 := hz
        replace k := k.2.2.2.2.2.2.2.2.2.2.2.2.2.2.2.2.2.2.2.2.2.2.2.2.2.2.2.2.2.2.2.2.2.2.2.2.2.2.2.2.2.2.2.2.2.2.2.2.2.2.2.2.2.2.2.2 hz
        refine aw_tabIn (z := 3075) 3115 dL_law_40 (by rw [hz]; decide) (by rw [hz]; decide) (by rw [hz]; rfl) rfl ?_
        exact AW.mono (Nat.le_refl _) (by omega) (aw_sub [0, 1, 2, 3, 4] rfl k)
set_option maxHeartbeats 4000000 in
set_option maxRecDepth 100000 in
theorem vc_L_law_3140 {nS : Nat} {sc : Nat → Int32} {d rb : Nat} {h : Hp} {Qr : Option AV → Hp → Prop} {Qx : String → Hp → Prop} {x4 : Int32} (k : AW (oa_X nS sc) (d + 1) rb mL_law 23 [(0, vR 2000 0), (1, vR 11 0), (2, vR 12 0), (3, vR 66 0), (4, vI (x4 + 6))] [] h Qr Qx) : AW (oa_X nS sc) (d + 1) rb mL_law 3140 [(0, vR 2000 0), (1, vR 11 0), (2, vR 12 0), (3, vR 66 0), (4, vI x4)] [] h Qr Qx := by
  refine aw_iinc (i := 4) (j := 4) (v := x4 + 6) (L2 := [(4, vI (x4 + 6)), (0, vR 2000 0), (1, vR 11 0), (2, vR 12 0), (3, vR 66 0)]) dL_law_3140 rfl (by decide) rfl rfl rfl ?_
  refine aw_goto 23 dL_law_3143 rfl ?_
  exact AW.mono (Nat.le_refl _) (by omega) (aw_sub [1, 2, 3, 4, 0] rfl k)
set_option maxHeartbeats 4000000 in
set_option maxRecDepth 100000 in
theorem vc_L_law_284 {nS : Nat} {sc : Nat → Int32} {d rb : Nat} {h : Hp} {Qr : Option AV → Hp → Prop} {Qx : String → Hp → Prop} {x4 : Int32} (k : (vp_in (x4 + 1) nS) ∧ (vp_in (x4 + 2) nS) ∧ (vp_in (x4 + 3) nS) ∧ (vp_in (x4 + 4) nS) ∧ (vp_in (x4 + 5) nS) ∧ CL 0 d mX11_append [vR 11 0, vI (sc (x4 + 1).toNatClampNeg), vI (sc (x4 + 2).toNatClampNeg), vI (sc (x4 + 3).toNatClampNeg), vI (sc (x4 + 4).toNatClampNeg), vI (sc (x4 + 5).toNatClampNeg)] h (oI fun r2 h1 => (vp_in (x4 + 1) nS) ∧ (vp_in (x4 + 2) nS) ∧ (vp_in (x4 + 3) nS) ∧ (vp_in (x4 + 4) nS) ∧ (vp_in (x4 + 5) nS) ∧ CL 0 d mX12_append [vR 12 0, vI (sc (x4 + 1).toNatClampNeg), vI (sc (x4 + 2).toNatClampNeg), vI (sc (x4 + 3).toNatClampNeg), vI (sc (x4 + 4).toNatClampNeg), vI (sc (x4 + 5).toNatClampNeg)] h1 (oI fun r4 h3 => ((r2 = r4) → AW (oa_X nS sc) (d + 1) rb mL_law 3140 [(0, vR 2000 0), (1, vR 11 0), (2, vR 12 0), (3, vR 66 0), (4, vI x4)] [] h3 Qr Qx) ∧ ((¬ r2 = r4) → Qr (some (vI 0)) h3)) Qx) Qx) : AW (oa_X nS sc) (d + 1) (rb + 1) mL_law 284 [(0, vR 2000 0), (1, vR 11 0), (2, vR 12 0), (3, vR 66 0), (4, vI x4)] [] h Qr Qx := by
  refine aw_aload_n (j := 1) (i := 1) dL_law_284 rfl rfl rfl ?_
  refine aw_aload_n (j := 0) (i := 0) dL_law_285 rfl rfl rfl ?_
  refine aw_iload (j := 4) (i := 4) dL_law_286 rfl rfl ?_
  refine aw_iconst (v := 1) dL_law_288 rfl (by decide) ?_
  refine aw_iadd dL_law_289 rfl ?_
  refine aw_sldX dL_law_290 rfl k.1 ?_
  replace k := k.2
  refine aw_aload_n (j := 0) (i := 0) dL_law_291 rfl rfl rfl ?_
  refine aw_iload (j := 4) (i := 4) dL_law_292 rfl rfl ?_
  refine aw_iconst (v := 2) dL_law_294 rfl (by decide) ?_
  refine aw_iadd dL_law_295 rfl ?_
  refine aw_sldX dL_law_296 rfl k.1 ?_
  replace k := k.2
  refine aw_aload_n (j := 0) (i := 0) dL_law_297 rfl rfl rfl ?_
  refine aw_iload (j := 4) (i := 4) dL_law_298 rfl rfl ?_
  refine aw_iconst (v := 3) dL_law_300 rfl (by decide) ?_
  refine aw_iadd dL_law_301 rfl ?_
  refine aw_sldX dL_law_302 rfl k.1 ?_
  replace k := k.2
  refine aw_aload_n (j := 0) (i := 0) dL_law_303 rfl rfl rfl ?_
  refine aw_iload (j := 4) (i := 4) dL_law_304 rfl rfl ?_
  refine aw_iconst (v := 4) dL_law_306 rfl (by decide) ?_
  refine aw_iadd dL_law_307 rfl ?_
  refine aw_sldX dL_law_308 rfl k.1 ?_
  replace k := k.2
  refine aw_aload_n (j := 0) (i := 0) dL_law_309 rfl rfl rfl ?_
  refine aw_iload (j := 4) (i := 4) dL_law_310 rfl rfl ?_
  refine aw_iconst (v := 5) dL_law_312 rfl (by decide) ?_
  refine aw_iadd dL_law_313 rfl ?_
  refine aw_sldX dL_law_314 rfl k.1 ?_
  replace k := k.2
  refine aw_callV (M' := mX11_append) (S := []) (as := [vI (sc (x4 + 1).toNatClampNeg), vI (sc (x4 + 2).toNatClampNeg), vI (sc (x4 + 3).toNatClampNeg), vI (sc (x4 + 4).toNatClampNeg), vI (sc (x4 + 5).toNatClampNeg)]) (k := 0) dL_law_315 rfl (by decide) rfl rfl gh_448 gh_449 gh_450 mb_X11_append rfl (Nat.zero_le _) (Nat.le_of_ble_eq_true rfl) rfl (CL.imp k (fun _ h1 k => ?_) (fun _ _ k => k))
  obtain ⟨r2, rfl, k⟩ := oI_of k
  show AW (oa_X nS sc) (d + 1) _ mL_law 318 _ [vI r2] h1 Qr Qx
  refine aw_aload_n (j := 2) (i := 2) dL_law_318 rfl rfl rfl ?_
  refine aw_aload_n (j := 0) (i := 0) dL_law_319 rfl rfl rfl ?_
  refine aw_iload (j := 4) (i := 4) dL_law_320 rfl rfl ?_
  refine aw_iconst (v := 1) dL_law_322 rfl (by decide) ?_
  refine aw_iadd dL_law_323 rfl ?_
  refine aw_sldX dL_law_324 rfl k.1 ?_
  replace k := k.2
  refine aw_aload_n (j := 0) (i := 0) dL_law_325 rfl rfl rfl ?_
  refine aw_iload (j := 4) (i := 4) dL_law_326 rfl rfl ?_
  refine aw_iconst (v := 2) dL_law_328 rfl (by decide) ?_
  refine aw_iadd dL_law_329 rfl ?_
  refine aw_sldX dL_law_330 rfl k.1 ?_
  replace k := k.2
  refine aw_aload_n (j := 0) (i := 0) dL_law_331 rfl rfl rfl ?_
  refine aw_iload (j := 4) (i := 4) dL_law_332 rfl rfl ?_
  refine aw_iconst (v := 3) dL_law_334 rfl (by decide) ?_
  refine aw_iadd dL_law_335 rfl ?_
  refine aw_sldX dL_law_336 rfl k.1 ?_
  replace k := k.2
  refine aw_aload_n (j := 0) (i := 0) dL_law_337 rfl rfl rfl ?_
  refine aw_iload (j := 4) (i := 4) dL_law_338 rfl rfl ?_
  refine aw_iconst (v := 4) dL_law_340 rfl (by decide) ?_
  refine aw_iadd dL_law_341 rfl ?_
  refine aw_sldX dL_law_342 rfl k.1 ?_
  replace k := k.2
  refine aw_aload_n (j := 0) (i := 0) dL_law_343 rfl rfl rfl ?_
  refine aw_iload (j := 4) (i := 4) dL_law_344 rfl rfl ?_
  refine aw_iconst (v := 5) dL_law_346 rfl (by decide) ?_
  refine aw_iadd dL_law_347 rfl ?_
  refine aw_sldX dL_law_348 rfl k.1 ?_
  replace k := k.2
  refine aw_callV (M' := mX12_append) (S := [vI r2]) (as := [vI (sc (x4 + 1).toNatClampNeg), vI (sc (x4 + 2).toNatClampNeg), vI (sc (x4 + 3).toNatClampNeg), vI (sc (x4 + 4).toNatClampNeg), vI (sc (x4 + 5).toNatClampNeg)]) (k := 0) dL_law_349 rfl (by decide) rfl rfl gh_1564 gh_1565 gh_1566 mb_X12_append rfl (Nat.zero_le _) (Nat.le_of_ble_eq_true rfl) rfl (CL.imp k (fun _ h3 k => ?_) (fun _ _ k => k))
  obtain ⟨r4, rfl, k⟩ := oI_of k
  show AW (oa_X nS sc) (d + 1) _ mL_law 352 _ [vI r4, vI r2] h3 Qr Qx
  refine aw_icmp_eq 3140 dL_law_352 rfl rfl (fun c => ?_) (fun c => ?_)
  · replace k := k.1 c
    exact AW.mono (Nat.le_refl _) (by omega) (aw_sub [0, 1, 2, 3, 4] rfl k)
  · replace k := k.2 c
    refine aw_iconst (v := 0) dL_law_355 rfl (by decide) ?_
    exact aw_zret dL_law_356 rfl (by decide) k
set_option maxHeartbeats 4000000 in
set_option maxRecDepth 100000 in
theorem vc_L_law_357 {nS : Nat} {sc : Nat → Int32} {d rb : Nat} {h : Hp} {Qr : Option AV → Hp → Prop} {Qx : String → Hp → Prop} {x4 : Int32} (k : (vp_in (x4 + 1) nS) ∧ CL 0 d mX11_truncate [vR 11 0, vI (sc (x4 + 1).toNatClampNeg)] h (oI fun r2 h1 => (vp_in (x4 + 1) nS) ∧ CL 0 d mX12_truncate [vR 12 0, vI (sc (x4 + 1).toNatClampNeg)] h1 (oI fun r4 h3 => ((r2 = r4) → AW (oa_X nS sc) (d + 1) rb mL_law 3140 [(0, vR 2000 0), (1, vR 11 0), (2, vR 12 0), (3, vR 66 0), (4, vI x4)] [] h3 Qr Qx) ∧ ((¬ r2 = r4) → Qr (some (vI 0)) h3)) Qx) Qx) : AW (oa_X nS sc) (d + 1) (rb + 1) mL_law 357 [(0, vR 2000 0), (1, vR 11 0), (2, vR 12 0), (3, vR 66 0), (4, vI x4)] [] h Qr Qx := by
  refine aw_aload_n (j := 1) (i := 1) dL_law_357 rfl rfl rfl ?_
  refine aw_aload_n (j := 0) (i := 0) dL_law_358 rfl rfl rfl ?_
  refine aw_iload (j := 4) (i := 4) dL_law_359 rfl rfl ?_
  refine aw_iconst (v := 1) dL_law_361 rfl (by decide) ?_
  refine aw_iadd dL_law_362 rfl ?_
  refine aw_sldX dL_law_363 rfl k.1 ?_
  replace k := k.2
  refine aw_callV (M' := mX11_truncate) (S := []) (as := [vI (sc (x4 + 1).toNatClampNeg)]) (k := 0) dL_law_364 rfl (by decide) rfl rfl gh_463 gh_464 gh_465 mb_X11_truncate rfl (Nat.zero_le _) (Nat.le_of_ble_eq_true rfl) rfl (CL.imp k (fun _ h1 k => ?_) (fun _ _ k => k))
  obtain ⟨r2, rfl, k⟩ := oI_of k
  show AW (oa_X nS sc) (d + 1) _ mL_law 367 _ [vI r2] h1 Qr Qx
  refine aw_aload_n (j := 2) (i := 2) dL_law_367 rfl rfl rfl ?_
  refine aw_aload_n (j := 0) (i := 0) dL_law_368 rfl rfl rfl ?_
  refine aw_iload (j := 4) (i := 4) dL_law_369 rfl rfl ?_
  refine aw_iconst (v := 1) dL_law_371 rfl (by decide) ?_
  refine aw_iadd dL_law_372 rfl ?_
  refine aw_sldX dL_law_373 rfl k.1 ?_
  replace k := k.2
  refine aw_callV (M' := mX12_truncate) (S := [vI r2]) (as := [vI (sc (x4 + 1).toNatClampNeg)]) (k := 0) dL_law_374 rfl (by decide) rfl rfl gh_1568 gh_1569 gh_1570 mb_X12_truncate rfl (Nat.zero_le _) (Nat.le_of_ble_eq_true rfl) rfl (CL.imp k (fun _ h3 k => ?_) (fun _ _ k => k))
  obtain ⟨r4, rfl, k⟩ := oI_of k
  show AW (oa_X nS sc) (d + 1) _ mL_law 377 _ [vI r4, vI r2] h3 Qr Qx
  refine aw_icmp_eq 3140 dL_law_377 rfl rfl (fun c => ?_) (fun c => ?_)
  · replace k := k.1 c
    exact AW.mono (Nat.le_refl _) (by omega) (aw_sub [0, 1, 2, 3, 4] rfl k)
  · replace k := k.2 c
    refine aw_iconst (v := 0) dL_law_380 rfl (by decide) ?_
    exact aw_zret dL_law_381 rfl (by decide) k
set_option maxHeartbeats 4000000 in
set_option maxRecDepth 100000 in
theorem vc_L_law_382 {nS : Nat} {sc : Nat → Int32} {d rb : Nat} {h : Hp} {Qr : Option AV → Hp → Prop} {Qx : String → Hp → Prop} {x4 : Int32} (k : CLH 1 d mL_load [vR 11 0, vR 66 0] h (oI fun r2 h1 => CL 0 d mX12_load [vR 12 0] h1 (oI fun r4 h3 => CL 0 d mX12_thrown [vR 12 0] h3 (oI fun r6 h5 => ((r6 = r2) → ((¬ r2 = 0) → AW (oa_X nS sc) (d + 1) rb mL_law 3140 [(0, vR 2000 0), (1, vR 11 0), (2, vR 12 0), (3, vR 66 0), (4, vI x4)] [] h5 Qr Qx) ∧ ((r2 = 0) → (((lg_cmp (h5.2.1 66 0 0) r4.toInt64) = 0) → AW (oa_X nS sc) (d + 1) rb mL_law 3140 [(0, vR 2000 0), (1, vR 11 0), (2, vR 12 0), (3, vR 66 0), (4, vI x4)] [] h5 Qr Qx) ∧ ((¬ (lg_cmp (h5.2.1 66 0 0) r4.toInt64) = 0) → Qr (some (vI 0)) h5))) ∧ ((¬ r6 = r2) → Qr (some (vI 0)) h5)) Qx) Qx) Qx) : AW (oa_X nS sc) (d + 1) (rb + 1) mL_law 382 [(0, vR 2000 0), (1, vR 11 0), (2, vR 12 0), (3, vR 66 0), (4, vI x4)] [] h Qr Qx := by
  refine aw_aload_n (j := 1) (i := 1) dL_law_382 rfl rfl rfl ?_
  refine aw_aload_n (j := 3) (i := 3) dL_law_383 rfl rfl rfl ?_
  refine aw_callSH (M' := mL_load) (S := []) (as := [vR 11 0, vR 66 0]) (k := 1) dL_law_384 rfl gh_735 gh_736 mb_L_load rfl (by omega) (Nat.le_of_ble_eq_true rfl) rfl (CLH.imp k (fun _ h1 k => ?_) (fun _ _ k => k))
  obtain ⟨r2, rfl, k⟩ := oI_of k
  show AW (oa_X nS sc) (d + 1) rb mL_law 387 _ [vI r2] h1 Qr Qx
  refine aw_istore (i := 5) (L2 := [(5, vI r2), (0, vR 2000 0), (1, vR 11 0), (2, vR 12 0), (3, vR 66 0), (4, vI x4)]) dL_law_387 rfl (by decide) rfl ?_
  refine aw_aload_n (j := 3) (i := 2) dL_law_389 rfl rfl rfl ?_
  refine aw_callV (M' := mX12_load) (S := []) (as := []) (k := 0) dL_law_390 rfl (by decide) rfl rfl gh_1670 gh_1671 gh_1672 mb_X12_load rfl (Nat.zero_le _) (Nat.le_of_ble_eq_true rfl) rfl (CL.imp k (fun _ h3 k => ?_) (fun _ _ k => k))
  obtain ⟨r4, rfl, k⟩ := oI_of k
  show AW (oa_X nS sc) (d + 1) _ mL_law 393 _ [vI r4] h3 Qr Qx
  refine aw_istore (i := 6) (L2 := [(6, vI r4), (5, vI r2), (0, vR 2000 0), (1, vR 11 0), (2, vR 12 0), (3, vR 66 0), (4, vI x4)]) dL_law_393 rfl (by decide) rfl ?_
  refine aw_aload_n (j := 4) (i := 2) dL_law_395 rfl rfl rfl ?_
  refine aw_callV (M' := mX12_thrown) (S := []) (as := []) (k := 0) dL_law_396 rfl (by decide) rfl rfl gh_1560 gh_1561 gh_1562 mb_X12_thrown rfl (Nat.zero_le _) (Nat.le_of_ble_eq_true rfl) rfl (CL.imp k (fun _ h5 k => ?_) (fun _ _ k => k))
  obtain ⟨r6, rfl, k⟩ := oI_of k
  show AW (oa_X nS sc) (d + 1) _ mL_law 399 _ [vI r6] h5 Qr Qx
  refine aw_iload (j := 1) (i := 5) dL_law_399 rfl rfl ?_
  refine aw_icmp_eq 406 dL_law_401 rfl rfl (fun c => ?_) (fun c => ?_)
  · replace k := k.1 c
    refine aw_iload (j := 1) (i := 5) dL_law_406 rfl rfl ?_
    refine aw_if_ne 423 dL_law_408 rfl rfl (fun c => ?_) (fun c => ?_)
    · replace k := k.1 c
      refine aw_goto 3140 dL_law_423 rfl ?_
      exact AW.mono (Nat.le_refl _) (by omega) (aw_sub [2, 3, 4, 5, 6] rfl k)
    · replace k := k.2 c
      refine aw_aload_n (j := 5) (i := 3) dL_law_411 rfl rfl rfl ?_
      refine aw_iconst (v := 0) dL_law_412 rfl (by decide) ?_
      refine aw_lald dL_law_413 rfl (by decide) rfl (by unfold vp_in; decide) ?_
      refine aw_iload (j := 0) (i := 6) dL_law_414 rfl rfl ?_
      refine aw_i2l dL_law_416 rfl ?_
      refine aw_lcmp dL_law_417 rfl ?_
      refine aw_if_eq 423 dL_law_418 rfl rfl (fun c => ?_) (fun c => ?_)
      · replace k := k.1 c
        refine aw_goto 3140 dL_law_423 rfl ?_
        exact AW.mono (Nat.le_refl _) (by omega) (aw_sub [2, 3, 4, 5, 6] rfl k)
      · replace k := k.2 c
        refine aw_iconst (v := 0) dL_law_421 rfl (by decide) ?_
        exact aw_zret dL_law_422 rfl (by decide) k
  · replace k := k.2 c
    refine aw_iconst (v := 0) dL_law_404 rfl (by decide) ?_
    exact aw_zret dL_law_405 rfl (by decide) k
set_option maxHeartbeats 4000000 in
set_option maxRecDepth 100000 in
theorem vc_L_law_426 {nS : Nat} {sc : Nat → Int32} {d rb : Nat} {h : Hp} {Qr : Option AV → Hp → Prop} {Qx : String → Hp → Prop} {x4 : Int32} (k : CL 0 d mX11_errorOffset [vR 11 0] h (oI fun r2 h1 => CL 0 d mX12_errorOffset [vR 12 0] h1 (oI fun r4 h3 => ((r2 = r4) → AW (oa_X nS sc) (d + 1) rb mL_law 3140 [(0, vR 2000 0), (1, vR 11 0), (2, vR 12 0), (3, vR 66 0), (4, vI x4)] [] h3 Qr Qx) ∧ ((¬ r2 = r4) → Qr (some (vI 0)) h3)) Qx) Qx) : AW (oa_X nS sc) (d + 1) (rb + 1) mL_law 426 [(0, vR 2000 0), (1, vR 11 0), (2, vR 12 0), (3, vR 66 0), (4, vI x4)] [] h Qr Qx := by
  refine aw_aload_n (j := 1) (i := 1) dL_law_426 rfl rfl rfl ?_
  refine aw_callV (M' := mX11_errorOffset) (S := []) (as := []) (k := 0) dL_law_427 rfl (by decide) rfl rfl gh_471 gh_472 gh_473 mb_X11_errorOffset rfl (Nat.zero_le _) (Nat.le_of_ble_eq_true rfl) rfl (CL.imp k (fun _ h1 k => ?_) (fun _ _ k => k))
  obtain ⟨r2, rfl, k⟩ := oI_of k
  show AW (oa_X nS sc) (d + 1) _ mL_law 430 _ [vI r2] h1 Qr Qx
  refine aw_aload_n (j := 2) (i := 2) dL_law_430 rfl rfl rfl ?_
  refine aw_callV (M' := mX12_errorOffset) (S := [vI r2]) (as := []) (k := 0) dL_law_431 rfl (by decide) rfl rfl gh_1572 gh_1573 gh_1574 mb_X12_errorOffset rfl (Nat.zero_le _) (Nat.le_of_ble_eq_true rfl) rfl (CL.imp k (fun _ h3 k => ?_) (fun _ _ k => k))
  obtain ⟨r4, rfl, k⟩ := oI_of k
  show AW (oa_X nS sc) (d + 1) _ mL_law 434 _ [vI r4, vI r2] h3 Qr Qx
  refine aw_icmp_eq 3140 dL_law_434 rfl rfl (fun c => ?_) (fun c => ?_)
  · replace k := k.1 c
    exact AW.mono (Nat.le_refl _) (by omega) (aw_sub [0, 1, 2, 3, 4] rfl k)
  · replace k := k.2 c
    refine aw_iconst (v := 0) dL_law_437 rfl (by decide) ?_
    exact aw_zret dL_law_438 rfl (by decide) k
set_option maxHeartbeats 4000000 in
set_option maxRecDepth 100000 in
theorem vc_L_law_439 {nS : Nat} {sc : Nat → Int32} {d rb : Nat} {h : Hp} {Qr : Option AV → Hp → Prop} {Qx : String → Hp → Prop} {x4 : Int32} (k : CL 0 d mX11_errorKind [vR 11 0] h (oI fun r2 h1 => CL 0 d mX12_errorKind [vR 12 0] h1 (oI fun r4 h3 => ((r2 = r4) → AW (oa_X nS sc) (d + 1) rb mL_law 3140 [(0, vR 2000 0), (1, vR 11 0), (2, vR 12 0), (3, vR 66 0), (4, vI x4)] [] h3 Qr Qx) ∧ ((¬ r2 = r4) → Qr (some (vI 0)) h3)) Qx) Qx) : AW (oa_X nS sc) (d + 1) (rb + 1) mL_law 439 [(0, vR 2000 0), (1, vR 11 0), (2, vR 12 0), (3, vR 66 0), (4, vI x4)] [] h Qr Qx := by
  refine aw_aload_n (j := 1) (i := 1) dL_law_439 rfl rfl rfl ?_
  refine aw_callV (M' := mX11_errorKind) (S := []) (as := []) (k := 0) dL_law_440 rfl (by decide) rfl rfl gh_475 gh_476 gh_477 mb_X11_errorKind rfl (Nat.zero_le _) (Nat.le_of_ble_eq_true rfl) rfl (CL.imp k (fun _ h1 k => ?_) (fun _ _ k => k))
  obtain ⟨r2, rfl, k⟩ := oI_of k
  show AW (oa_X nS sc) (d + 1) _ mL_law 443 _ [vI r2] h1 Qr Qx
  refine aw_aload_n (j := 2) (i := 2) dL_law_443 rfl rfl rfl ?_
  refine aw_callV (M' := mX12_errorKind) (S := [vI r2]) (as := []) (k := 0) dL_law_444 rfl (by decide) rfl rfl gh_1576 gh_1577 gh_1578 mb_X12_errorKind rfl (Nat.zero_le _) (Nat.le_of_ble_eq_true rfl) rfl (CL.imp k (fun _ h3 k => ?_) (fun _ _ k => k))
  obtain ⟨r4, rfl, k⟩ := oI_of k
  show AW (oa_X nS sc) (d + 1) _ mL_law 447 _ [vI r4, vI r2] h3 Qr Qx
  refine aw_icmp_eq 3140 dL_law_447 rfl rfl (fun c => ?_) (fun c => ?_)
  · replace k := k.1 c
    exact AW.mono (Nat.le_refl _) (by omega) (aw_sub [0, 1, 2, 3, 4] rfl k)
  · replace k := k.2 c
    refine aw_iconst (v := 0) dL_law_450 rfl (by decide) ?_
    exact aw_zret dL_law_451 rfl (by decide) k
set_option maxHeartbeats 4000000 in
set_option maxRecDepth 100000 in
theorem vc_L_law_452 {nS : Nat} {sc : Nat → Int32} {d rb : Nat} {h : Hp} {Qr : Option AV → Hp → Prop} {Qx : String → Hp → Prop} {x4 : Int32} (k : (vp_in (x4 + 1) nS) ∧ CL 0 d mX11_count [vR 11 0, vI (sc (x4 + 1).toNatClampNeg)] h (oI fun r2 h1 => (vp_in (x4 + 1) nS) ∧ CL 0 d mX12_count [vR 12 0, vI (sc (x4 + 1).toNatClampNeg)] h1 (oI fun r4 h3 => ((r2 = r4) → AW (oa_X nS sc) (d + 1) rb mL_law 3140 [(0, vR 2000 0), (1, vR 11 0), (2, vR 12 0), (3, vR 66 0), (4, vI x4)] [] h3 Qr Qx) ∧ ((¬ r2 = r4) → Qr (some (vI 0)) h3)) Qx) Qx) : AW (oa_X nS sc) (d + 1) (rb + 1) mL_law 452 [(0, vR 2000 0), (1, vR 11 0), (2, vR 12 0), (3, vR 66 0), (4, vI x4)] [] h Qr Qx := by
  refine aw_aload_n (j := 1) (i := 1) dL_law_452 rfl rfl rfl ?_
  refine aw_aload_n (j := 0) (i := 0) dL_law_453 rfl rfl rfl ?_
  refine aw_iload (j := 4) (i := 4) dL_law_454 rfl rfl ?_
  refine aw_iconst (v := 1) dL_law_456 rfl (by decide) ?_
  refine aw_iadd dL_law_457 rfl ?_
  refine aw_sldX dL_law_458 rfl k.1 ?_
  replace k := k.2
  refine aw_callV (M' := mX11_count) (S := []) (as := [vI (sc (x4 + 1).toNatClampNeg)]) (k := 0) dL_law_459 rfl (by decide) rfl rfl gh_479 gh_480 gh_481 mb_X11_count rfl (Nat.zero_le _) (Nat.le_of_ble_eq_true rfl) rfl (CL.imp k (fun _ h1 k => ?_) (fun _ _ k => k))
  obtain ⟨r2, rfl, k⟩ := oI_of k
  show AW (oa_X nS sc) (d + 1) _ mL_law 462 _ [vI r2] h1 Qr Qx
  refine aw_aload_n (j := 2) (i := 2) dL_law_462 rfl rfl rfl ?_
  refine aw_aload_n (j := 0) (i := 0) dL_law_463 rfl rfl rfl ?_
  refine aw_iload (j := 4) (i := 4) dL_law_464 rfl rfl ?_
  refine aw_iconst (v := 1) dL_law_466 rfl (by decide) ?_
  refine aw_iadd dL_law_467 rfl ?_
  refine aw_sldX dL_law_468 rfl k.1 ?_
  replace k := k.2
  refine aw_callV (M' := mX12_count) (S := [vI r2]) (as := [vI (sc (x4 + 1).toNatClampNeg)]) (k := 0) dL_law_469 rfl (by decide) rfl rfl gh_1760 gh_1761 gh_1762 mb_X12_count rfl (Nat.zero_le _) (Nat.le_of_ble_eq_true rfl) rfl (CL.imp k (fun _ h3 k => ?_) (fun _ _ k => k))
  obtain ⟨r4, rfl, k⟩ := oI_of k
  show AW (oa_X nS sc) (d + 1) _ mL_law 472 _ [vI r4, vI r2] h3 Qr Qx
  refine aw_icmp_eq 3140 dL_law_472 rfl rfl (fun c => ?_) (fun c => ?_)
  · replace k := k.1 c
    exact AW.mono (Nat.le_refl _) (by omega) (aw_sub [0, 1, 2, 3, 4] rfl k)
  · replace k := k.2 c
    refine aw_iconst (v := 0) dL_law_475 rfl (by decide) ?_
    exact aw_zret dL_law_476 rfl (by decide) k
set_option maxHeartbeats 4000000 in
set_option maxRecDepth 100000 in
theorem vc_L_law_477 {nS : Nat} {sc : Nat → Int32} {d rb : Nat} {h : Hp} {Qr : Option AV → Hp → Prop} {Qx : String → Hp → Prop} {x4 : Int32} (k : (vp_in (x4 + 1) nS) ∧ CLH 1 d mL_lineCount [vR 11 0, vI (sc (x4 + 1).toNatClampNeg), vR 66 0] h (oI fun r2 h1 => (vp_in (x4 + 1) nS) ∧ CL 0 d mX12_lineCount [vR 12 0, vI (sc (x4 + 1).toNatClampNeg)] h1 (oI fun r4 h3 => CL 0 d mX12_thrown [vR 12 0] h3 (oI fun r6 h5 => ((r6 = r2) → ((¬ r2 = 0) → AW (oa_X nS sc) (d + 1) rb mL_law 3140 [(0, vR 2000 0), (1, vR 11 0), (2, vR 12 0), (3, vR 66 0), (4, vI x4)] [] h5 Qr Qx) ∧ ((r2 = 0) → (((lg_cmp (h5.2.1 66 0 0) r4.toInt64) = 0) → AW (oa_X nS sc) (d + 1) rb mL_law 3140 [(0, vR 2000 0), (1, vR 11 0), (2, vR 12 0), (3, vR 66 0), (4, vI x4)] [] h5 Qr Qx) ∧ ((¬ (lg_cmp (h5.2.1 66 0 0) r4.toInt64) = 0) → Qr (some (vI 0)) h5))) ∧ ((¬ r6 = r2) → Qr (some (vI 0)) h5)) Qx) Qx) Qx) : AW (oa_X nS sc) (d + 1) (rb + 1) mL_law 477 [(0, vR 2000 0), (1, vR 11 0), (2, vR 12 0), (3, vR 66 0), (4, vI x4)] [] h Qr Qx := by
  refine aw_aload_n (j := 1) (i := 1) dL_law_477 rfl rfl rfl ?_
  refine aw_aload_n (j := 0) (i := 0) dL_law_478 rfl rfl rfl ?_
  refine aw_iload (j := 4) (i := 4) dL_law_479 rfl rfl ?_
  refine aw_iconst (v := 1) dL_law_481 rfl (by decide) ?_
  refine aw_iadd dL_law_482 rfl ?_
  refine aw_sldX dL_law_483 rfl k.1 ?_
  replace k := k.2
  refine aw_aload_n (j := 3) (i := 3) dL_law_484 rfl rfl rfl ?_
  refine aw_callSH (M' := mL_lineCount) (S := []) (as := [vR 11 0, vI (sc (x4 + 1).toNatClampNeg), vR 66 0]) (k := 1) dL_law_485 rfl gh_1041 gh_1042 mb_L_lineCount rfl (by omega) (Nat.le_of_ble_eq_true rfl) rfl (CLH.imp k (fun _ h1 k => ?_) (fun _ _ k => k))
  obtain ⟨r2, rfl, k⟩ := oI_of k
  show AW (oa_X nS sc) (d + 1) rb mL_law 488 _ [vI r2] h1 Qr Qx
  refine aw_istore (i := 5) (L2 := [(5, vI r2), (0, vR 2000 0), (1, vR 11 0), (2, vR 12 0), (3, vR 66 0), (4, vI x4)]) dL_law_488 rfl (by decide) rfl ?_
  refine aw_aload_n (j := 3) (i := 2) dL_law_490 rfl rfl rfl ?_
  refine aw_aload_n (j := 1) (i := 0) dL_law_491 rfl rfl rfl ?_
  refine aw_iload (j := 5) (i := 4) dL_law_492 rfl rfl ?_
  refine aw_iconst (v := 1) dL_law_494 rfl (by decide) ?_
  refine aw_iadd dL_law_495 rfl ?_
  refine aw_sldX dL_law_496 rfl k.1 ?_
  replace k := k.2
  refine aw_callV (M' := mX12_lineCount) (S := []) (as := [vI (sc (x4 + 1).toNatClampNeg)]) (k := 0) dL_law_497 rfl (by decide) rfl rfl gh_1764 gh_1765 gh_1766 mb_X12_lineCount rfl (Nat.zero_le _) (Nat.le_of_ble_eq_true rfl) rfl (CL.imp k (fun _ h3 k => ?_) (fun _ _ k => k))
  obtain ⟨r4, rfl, k⟩ := oI_of k
  show AW (oa_X nS sc) (d + 1) _ mL_law 500 _ [vI r4] h3 Qr Qx
  refine aw_istore (i := 6) (L2 := [(6, vI r4), (5, vI r2), (0, vR 2000 0), (1, vR 11 0), (2, vR 12 0), (3, vR 66 0), (4, vI x4)]) dL_law_500 rfl (by decide) rfl ?_
  refine aw_aload_n (j := 4) (i := 2) dL_law_502 rfl rfl rfl ?_
  refine aw_callV (M' := mX12_thrown) (S := []) (as := []) (k := 0) dL_law_503 rfl (by decide) rfl rfl gh_1560 gh_1561 gh_1562 mb_X12_thrown rfl (Nat.zero_le _) (Nat.le_of_ble_eq_true rfl) rfl (CL.imp k (fun _ h5 k => ?_) (fun _ _ k => k))
  obtain ⟨r6, rfl, k⟩ := oI_of k
  show AW (oa_X nS sc) (d + 1) _ mL_law 506 _ [vI r6] h5 Qr Qx
  refine aw_iload (j := 1) (i := 5) dL_law_506 rfl rfl ?_
  refine aw_icmp_eq 513 dL_law_508 rfl rfl (fun c => ?_) (fun c => ?_)
  · replace k := k.1 c
    refine aw_iload (j := 1) (i := 5) dL_law_513 rfl rfl ?_
    refine aw_if_ne 530 dL_law_515 rfl rfl (fun c => ?_) (fun c => ?_)
    · replace k := k.1 c
      refine aw_goto 3140 dL_law_530 rfl ?_
      exact AW.mono (Nat.le_refl _) (by omega) (aw_sub [2, 3, 4, 5, 6] rfl k)
    · replace k := k.2 c
      refine aw_aload_n (j := 5) (i := 3) dL_law_518 rfl rfl rfl ?_
      refine aw_iconst (v := 0) dL_law_519 rfl (by decide) ?_
      refine aw_lald dL_law_520 rfl (by decide) rfl (by unfold vp_in; decide) ?_
      refine aw_iload (j := 0) (i := 6) dL_law_521 rfl rfl ?_
      refine aw_i2l dL_law_523 rfl ?_
      refine aw_lcmp dL_law_524 rfl ?_
      refine aw_if_eq 530 dL_law_525 rfl rfl (fun c => ?_) (fun c => ?_)
      · replace k := k.1 c
        refine aw_goto 3140 dL_law_530 rfl ?_
        exact AW.mono (Nat.le_refl _) (by omega) (aw_sub [2, 3, 4, 5, 6] rfl k)
      · replace k := k.2 c
        refine aw_iconst (v := 0) dL_law_528 rfl (by decide) ?_
        exact aw_zret dL_law_529 rfl (by decide) k
  · replace k := k.2 c
    refine aw_iconst (v := 0) dL_law_511 rfl (by decide) ?_
    exact aw_zret dL_law_512 rfl (by decide) k
set_option maxHeartbeats 4000000 in
set_option maxRecDepth 100000 in
theorem vc_L_law_533 {nS : Nat} {sc : Nat → Int32} {d rb : Nat} {h : Hp} {Qr : Option AV → Hp → Prop} {Qx : String → Hp → Prop} {x4 : Int32} (k : (vp_in (x4 + 1) nS) ∧ (vp_in (x4 + 2) nS) ∧ CLH 1 d mL_lineItem [vR 11 0, vI (sc (x4 + 1).toNatClampNeg), vI (sc (x4 + 2).toNatClampNeg), vR 66 0] h (oI fun r2 h1 => (vp_in (x4 + 1) nS) ∧ (vp_in (x4 + 2) nS) ∧ CL 0 d mX12_lineItem [vR 12 0, vI (sc (x4 + 1).toNatClampNeg), vI (sc (x4 + 2).toNatClampNeg)] h1 (oI fun r4 h3 => CL 0 d mX12_thrown [vR 12 0] h3 (oI fun r6 h5 => ((r6 = r2) → ((¬ r2 = 0) → AW (oa_X nS sc) (d + 1) rb mL_law 3140 [(0, vR 2000 0), (1, vR 11 0), (2, vR 12 0), (3, vR 66 0), (4, vI x4)] [] h5 Qr Qx) ∧ ((r2 = 0) → (((lg_cmp (h5.2.1 66 0 0) r4.toInt64) = 0) → AW (oa_X nS sc) (d + 1) rb mL_law 3140 [(0, vR 2000 0), (1, vR 11 0), (2, vR 12 0), (3, vR 66 0), (4, vI x4)] [] h5 Qr Qx) ∧ ((¬ (lg_cmp (h5.2.1 66 0 0) r4.toInt64) = 0) → Qr (some (vI 0)) h5))) ∧ ((¬ r6 = r2) → Qr (some (vI 0)) h5)) Qx) Qx) Qx) : AW (oa_X nS sc) (d + 1) (rb + 1) mL_law 533 [(0, vR 2000 0), (1, vR 11 0), (2, vR 12 0), (3, vR 66 0), (4, vI x4)] [] h Qr Qx := by
  refine aw_aload_n (j := 1) (i := 1) dL_law_533 rfl rfl rfl ?_
  refine aw_aload_n (j := 0) (i := 0) dL_law_534 rfl rfl rfl ?_
  refine aw_iload (j := 4) (i := 4) dL_law_535 rfl rfl ?_
  refine aw_iconst (v := 1) dL_law_537 rfl (by decide) ?_
  refine aw_iadd dL_law_538 rfl ?_
  refine aw_sldX dL_law_539 rfl k.1 ?_
  replace k := k.2
  refine aw_aload_n (j := 0) (i := 0) dL_law_540 rfl rfl rfl ?_
  refine aw_iload (j := 4) (i := 4) dL_law_541 rfl rfl ?_
  refine aw_iconst (v := 2) dL_law_543 rfl (by decide) ?_
  refine aw_iadd dL_law_544 rfl ?_
  refine aw_sldX dL_law_545 rfl k.1 ?_
  replace k := k.2
  refine aw_aload_n (j := 3) (i := 3) dL_law_546 rfl rfl rfl ?_
  refine aw_callSH (M' := mL_lineItem) (S := []) (as := [vR 11 0, vI (sc (x4 + 1).toNatClampNeg), vI (sc (x4 + 2).toNatClampNeg), vR 66 0]) (k := 1) dL_law_547 rfl gh_1074 gh_1075 mb_L_lineItem rfl (by omega) (Nat.le_of_ble_eq_true rfl) rfl (CLH.imp k (fun _ h1 k => ?_) (fun _ _ k => k))
  obtain ⟨r2, rfl, k⟩ := oI_of k
  show AW (oa_X nS sc) (d + 1) rb mL_law 550 _ [vI r2] h1 Qr Qx
  refine aw_istore (i := 5) (L2 := [(5, vI r2), (0, vR 2000 0), (1, vR 11 0), (2, vR 12 0), (3, vR 66 0), (4, vI x4)]) dL_law_550 rfl (by decide) rfl ?_
  refine aw_aload_n (j := 3) (i := 2) dL_law_552 rfl rfl rfl ?_
  refine aw_aload_n (j := 1) (i := 0) dL_law_553 rfl rfl rfl ?_
  refine aw_iload (j := 5) (i := 4) dL_law_554 rfl rfl ?_
  refine aw_iconst (v := 1) dL_law_556 rfl (by decide) ?_
  refine aw_iadd dL_law_557 rfl ?_
  refine aw_sldX dL_law_558 rfl k.1 ?_
  replace k := k.2
  refine aw_aload_n (j := 1) (i := 0) dL_law_559 rfl rfl rfl ?_
  refine aw_iload (j := 5) (i := 4) dL_law_560 rfl rfl ?_
  refine aw_iconst (v := 2) dL_law_562 rfl (by decide) ?_
  refine aw_iadd dL_law_563 rfl ?_
  refine aw_sldX dL_law_564 rfl k.1 ?_
  replace k := k.2
  refine aw_callV (M' := mX12_lineItem) (S := []) (as := [vI (sc (x4 + 1).toNatClampNeg), vI (sc (x4 + 2).toNatClampNeg)]) (k := 0) dL_law_565 rfl (by decide) rfl rfl gh_1772 gh_1773 gh_1774 mb_X12_lineItem rfl (Nat.zero_le _) (Nat.le_of_ble_eq_true rfl) rfl (CL.imp k (fun _ h3 k => ?_) (fun _ _ k => k))
  obtain ⟨r4, rfl, k⟩ := oI_of k
  show AW (oa_X nS sc) (d + 1) _ mL_law 568 _ [vI r4] h3 Qr Qx
  refine aw_istore (i := 6) (L2 := [(6, vI r4), (5, vI r2), (0, vR 2000 0), (1, vR 11 0), (2, vR 12 0), (3, vR 66 0), (4, vI x4)]) dL_law_568 rfl (by decide) rfl ?_
  refine aw_aload_n (j := 4) (i := 2) dL_law_570 rfl rfl rfl ?_
  refine aw_callV (M' := mX12_thrown) (S := []) (as := []) (k := 0) dL_law_571 rfl (by decide) rfl rfl gh_1560 gh_1561 gh_1562 mb_X12_thrown rfl (Nat.zero_le _) (Nat.le_of_ble_eq_true rfl) rfl (CL.imp k (fun _ h5 k => ?_) (fun _ _ k => k))
  obtain ⟨r6, rfl, k⟩ := oI_of k
  show AW (oa_X nS sc) (d + 1) _ mL_law 574 _ [vI r6] h5 Qr Qx
  refine aw_iload (j := 1) (i := 5) dL_law_574 rfl rfl ?_
  refine aw_icmp_eq 581 dL_law_576 rfl rfl (fun c => ?_) (fun c => ?_)
  · replace k := k.1 c
    refine aw_iload (j := 1) (i := 5) dL_law_581 rfl rfl ?_
    refine aw_if_ne 598 dL_law_583 rfl rfl (fun c => ?_) (fun c => ?_)
    · replace k := k.1 c
      refine aw_goto 3140 dL_law_598 rfl ?_
      exact AW.mono (Nat.le_refl _) (by omega) (aw_sub [2, 3, 4, 5, 6] rfl k)
    · replace k := k.2 c
      refine aw_aload_n (j := 5) (i := 3) dL_law_586 rfl rfl rfl ?_
      refine aw_iconst (v := 0) dL_law_587 rfl (by decide) ?_
      refine aw_lald dL_law_588 rfl (by decide) rfl (by unfold vp_in; decide) ?_
      refine aw_iload (j := 0) (i := 6) dL_law_589 rfl rfl ?_
      refine aw_i2l dL_law_591 rfl ?_
      refine aw_lcmp dL_law_592 rfl ?_
      refine aw_if_eq 598 dL_law_593 rfl rfl (fun c => ?_) (fun c => ?_)
      · replace k := k.1 c
        refine aw_goto 3140 dL_law_598 rfl ?_
        exact AW.mono (Nat.le_refl _) (by omega) (aw_sub [2, 3, 4, 5, 6] rfl k)
      · replace k := k.2 c
        refine aw_iconst (v := 0) dL_law_596 rfl (by decide) ?_
        exact aw_zret dL_law_597 rfl (by decide) k
  · replace k := k.2 c
    refine aw_iconst (v := 0) dL_law_579 rfl (by decide) ?_
    exact aw_zret dL_law_580 rfl (by decide) k
set_option maxHeartbeats 4000000 in
set_option maxRecDepth 100000 in
theorem vc_L_law_601 {nS : Nat} {sc : Nat → Int32} {d rb : Nat} {h : Hp} {Qr : Option AV → Hp → Prop} {Qx : String → Hp → Prop} {x4 : Int32} (k : (vp_in (x4 + 1) nS) ∧ (vp_in (x4 + 2) nS) ∧ CLH 1 d mL_lineQuantity [vR 11 0, vI (sc (x4 + 1).toNatClampNeg), vI (sc (x4 + 2).toNatClampNeg), vR 66 0] h (oI fun r2 h1 => (vp_in (x4 + 1) nS) ∧ (vp_in (x4 + 2) nS) ∧ CL 0 d mX12_lineQuantity [vR 12 0, vI (sc (x4 + 1).toNatClampNeg), vI (sc (x4 + 2).toNatClampNeg)] h1 (oI fun r4 h3 => CL 0 d mX12_thrown [vR 12 0] h3 (oI fun r6 h5 => ((r6 = r2) → ((¬ r2 = 0) → AW (oa_X nS sc) (d + 1) rb mL_law 3140 [(0, vR 2000 0), (1, vR 11 0), (2, vR 12 0), (3, vR 66 0), (4, vI x4)] [] h5 Qr Qx) ∧ ((r2 = 0) → (((lg_cmp (h5.2.1 66 0 0) r4.toInt64) = 0) → AW (oa_X nS sc) (d + 1) rb mL_law 3140 [(0, vR 2000 0), (1, vR 11 0), (2, vR 12 0), (3, vR 66 0), (4, vI x4)] [] h5 Qr Qx) ∧ ((¬ (lg_cmp (h5.2.1 66 0 0) r4.toInt64) = 0) → Qr (some (vI 0)) h5))) ∧ ((¬ r6 = r2) → Qr (some (vI 0)) h5)) Qx) Qx) Qx) : AW (oa_X nS sc) (d + 1) (rb + 1) mL_law 601 [(0, vR 2000 0), (1, vR 11 0), (2, vR 12 0), (3, vR 66 0), (4, vI x4)] [] h Qr Qx := by
  refine aw_aload_n (j := 1) (i := 1) dL_law_601 rfl rfl rfl ?_
  refine aw_aload_n (j := 0) (i := 0) dL_law_602 rfl rfl rfl ?_
  refine aw_iload (j := 4) (i := 4) dL_law_603 rfl rfl ?_
  refine aw_iconst (v := 1) dL_law_605 rfl (by decide) ?_
  refine aw_iadd dL_law_606 rfl ?_
  refine aw_sldX dL_law_607 rfl k.1 ?_
  replace k := k.2
  refine aw_aload_n (j := 0) (i := 0) dL_law_608 rfl rfl rfl ?_
  refine aw_iload (j := 4) (i := 4) dL_law_609 rfl rfl ?_
  refine aw_iconst (v := 2) dL_law_611 rfl (by decide) ?_
  refine aw_iadd dL_law_612 rfl ?_
  refine aw_sldX dL_law_613 rfl k.1 ?_
  replace k := k.2
  refine aw_aload_n (j := 3) (i := 3) dL_law_614 rfl rfl rfl ?_
  refine aw_callSH (M' := mL_lineQuantity) (S := []) (as := [vR 11 0, vI (sc (x4 + 1).toNatClampNeg), vI (sc (x4 + 2).toNatClampNeg), vR 66 0]) (k := 1) dL_law_615 rfl gh_1086 gh_1087 mb_L_lineQuantity rfl (by omega) (Nat.le_of_ble_eq_true rfl) rfl (CLH.imp k (fun _ h1 k => ?_) (fun _ _ k => k))
  obtain ⟨r2, rfl, k⟩ := oI_of k
  show AW (oa_X nS sc) (d + 1) rb mL_law 618 _ [vI r2] h1 Qr Qx
  refine aw_istore (i := 5) (L2 := [(5, vI r2), (0, vR 2000 0), (1, vR 11 0), (2, vR 12 0), (3, vR 66 0), (4, vI x4)]) dL_law_618 rfl (by decide) rfl ?_
  refine aw_aload_n (j := 3) (i := 2) dL_law_620 rfl rfl rfl ?_
  refine aw_aload_n (j := 1) (i := 0) dL_law_621 rfl rfl rfl ?_
  refine aw_iload (j := 5) (i := 4) dL_law_622 rfl rfl ?_
  refine aw_iconst (v := 1) dL_law_624 rfl (by decide) ?_
  refine aw_iadd dL_law_625 rfl ?_
  refine aw_sldX dL_law_626 rfl k.1 ?_
  replace k := k.2
  refine aw_aload_n (j := 1) (i := 0) dL_law_627 rfl rfl rfl ?_
  refine aw_iload (j := 5) (i := 4) dL_law_628 rfl rfl ?_
  refine aw_iconst (v := 2) dL_law_630 rfl (by decide) ?_
  refine aw_iadd dL_law_631 rfl ?_
  refine aw_sldX dL_law_632 rfl k.1 ?_
  replace k := k.2
  refine aw_callV (M' := mX12_lineQuantity) (S := []) (as := [vI (sc (x4 + 1).toNatClampNeg), vI (sc (x4 + 2).toNatClampNeg)]) (k := 0) dL_law_633 rfl (by decide) rfl rfl gh_1776 gh_1777 gh_1778 mb_X12_lineQuantity rfl (Nat.zero_le _) (Nat.le_of_ble_eq_true rfl) rfl (CL.imp k (fun _ h3 k => ?_) (fun _ _ k => k))
  obtain ⟨r4, rfl, k⟩ := oI_of k
  show AW (oa_X nS sc) (d + 1) _ mL_law 636 _ [vI r4] h3 Qr Qx
  refine aw_istore (i := 6) (L2 := [(6, vI r4), (5, vI r2), (0, vR 2000 0), (1, vR 11 0), (2, vR 12 0), (3, vR 66 0), (4, vI x4)]) dL_law_636 rfl (by decide) rfl ?_
  refine aw_aload_n (j := 4) (i := 2) dL_law_638 rfl rfl rfl ?_
  refine aw_callV (M' := mX12_thrown) (S := []) (as := []) (k := 0) dL_law_639 rfl (by decide) rfl rfl gh_1560 gh_1561 gh_1562 mb_X12_thrown rfl (Nat.zero_le _) (Nat.le_of_ble_eq_true rfl) rfl (CL.imp k (fun _ h5 k => ?_) (fun _ _ k => k))
  obtain ⟨r6, rfl, k⟩ := oI_of k
  show AW (oa_X nS sc) (d + 1) _ mL_law 642 _ [vI r6] h5 Qr Qx
  refine aw_iload (j := 1) (i := 5) dL_law_642 rfl rfl ?_
  refine aw_icmp_eq 649 dL_law_644 rfl rfl (fun c => ?_) (fun c => ?_)
  · replace k := k.1 c
    refine aw_iload (j := 1) (i := 5) dL_law_649 rfl rfl ?_
    refine aw_if_ne 666 dL_law_651 rfl rfl (fun c => ?_) (fun c => ?_)
    · replace k := k.1 c
      refine aw_goto 3140 dL_law_666 rfl ?_
      exact AW.mono (Nat.le_refl _) (by omega) (aw_sub [2, 3, 4, 5, 6] rfl k)
    · replace k := k.2 c
      refine aw_aload_n (j := 5) (i := 3) dL_law_654 rfl rfl rfl ?_
      refine aw_iconst (v := 0) dL_law_655 rfl (by decide) ?_
      refine aw_lald dL_law_656 rfl (by decide) rfl (by unfold vp_in; decide) ?_
      refine aw_iload (j := 0) (i := 6) dL_law_657 rfl rfl ?_
      refine aw_i2l dL_law_659 rfl ?_
      refine aw_lcmp dL_law_660 rfl ?_
      refine aw_if_eq 666 dL_law_661 rfl rfl (fun c => ?_) (fun c => ?_)
      · replace k := k.1 c
        refine aw_goto 3140 dL_law_666 rfl ?_
        exact AW.mono (Nat.le_refl _) (by omega) (aw_sub [2, 3, 4, 5, 6] rfl k)
      · replace k := k.2 c
        refine aw_iconst (v := 0) dL_law_664 rfl (by decide) ?_
        exact aw_zret dL_law_665 rfl (by decide) k
  · replace k := k.2 c
    refine aw_iconst (v := 0) dL_law_647 rfl (by decide) ?_
    exact aw_zret dL_law_648 rfl (by decide) k
set_option maxHeartbeats 4000000 in
set_option maxRecDepth 100000 in
theorem vc_L_law_669 {nS : Nat} {sc : Nat → Int32} {d rb : Nat} {h : Hp} {Qr : Option AV → Hp → Prop} {Qx : String → Hp → Prop} {x4 : Int32} (k : (vp_in (x4 + 1) nS) ∧ (vp_in (x4 + 2) nS) ∧ CLH 1 d mL_need [vR 11 0, vI (sc (x4 + 1).toNatClampNeg), vI (sc (x4 + 2).toNatClampNeg), vR 66 0] h (oI fun r2 h1 => (vp_in (x4 + 1) nS) ∧ (vp_in (x4 + 2) nS) ∧ CL 0 d mX12_need [vR 12 0, vI (sc (x4 + 1).toNatClampNeg), vI (sc (x4 + 2).toNatClampNeg)] h1 (oI fun r4 h3 => CL 0 d mX12_thrown [vR 12 0] h3 (oI fun r6 h5 => ((r6 = r2) → ((¬ r2 = 0) → AW (oa_X nS sc) (d + 1) rb mL_law 3140 [(0, vR 2000 0), (1, vR 11 0), (2, vR 12 0), (3, vR 66 0), (4, vI x4)] [] h5 Qr Qx) ∧ ((r2 = 0) → (((lg_cmp (h5.2.1 66 0 0) r4.toInt64) = 0) → AW (oa_X nS sc) (d + 1) rb mL_law 3140 [(0, vR 2000 0), (1, vR 11 0), (2, vR 12 0), (3, vR 66 0), (4, vI x4)] [] h5 Qr Qx) ∧ ((¬ (lg_cmp (h5.2.1 66 0 0) r4.toInt64) = 0) → Qr (some (vI 0)) h5))) ∧ ((¬ r6 = r2) → Qr (some (vI 0)) h5)) Qx) Qx) Qx) : AW (oa_X nS sc) (d + 1) (rb + 1) mL_law 669 [(0, vR 2000 0), (1, vR 11 0), (2, vR 12 0), (3, vR 66 0), (4, vI x4)] [] h Qr Qx := by
  refine aw_aload_n (j := 1) (i := 1) dL_law_669 rfl rfl rfl ?_
  refine aw_aload_n (j := 0) (i := 0) dL_law_670 rfl rfl rfl ?_
  refine aw_iload (j := 4) (i := 4) dL_law_671 rfl rfl ?_
  refine aw_iconst (v := 1) dL_law_673 rfl (by decide) ?_
  refine aw_iadd dL_law_674 rfl ?_
  refine aw_sldX dL_law_675 rfl k.1 ?_
  replace k := k.2
  refine aw_aload_n (j := 0) (i := 0) dL_law_676 rfl rfl rfl ?_
  refine aw_iload (j := 4) (i := 4) dL_law_677 rfl rfl ?_
  refine aw_iconst (v := 2) dL_law_679 rfl (by decide) ?_
  refine aw_iadd dL_law_680 rfl ?_
  refine aw_sldX dL_law_681 rfl k.1 ?_
  replace k := k.2
  refine aw_aload_n (j := 3) (i := 3) dL_law_682 rfl rfl rfl ?_
  refine aw_callSH (M' := mL_need) (S := []) (as := [vR 11 0, vI (sc (x4 + 1).toNatClampNeg), vI (sc (x4 + 2).toNatClampNeg), vR 66 0]) (k := 1) dL_law_683 rfl gh_1097 gh_1098 mb_L_need rfl (by omega) (Nat.le_of_ble_eq_true rfl) rfl (CLH.imp k (fun _ h1 k => ?_) (fun _ _ k => k))
  obtain ⟨r2, rfl, k⟩ := oI_of k
  show AW (oa_X nS sc) (d + 1) rb mL_law 686 _ [vI r2] h1 Qr Qx
  refine aw_istore (i := 5) (L2 := [(5, vI r2), (0, vR 2000 0), (1, vR 11 0), (2, vR 12 0), (3, vR 66 0), (4, vI x4)]) dL_law_686 rfl (by decide) rfl ?_
  refine aw_aload_n (j := 3) (i := 2) dL_law_688 rfl rfl rfl ?_
  refine aw_aload_n (j := 1) (i := 0) dL_law_689 rfl rfl rfl ?_
  refine aw_iload (j := 5) (i := 4) dL_law_690 rfl rfl ?_
  refine aw_iconst (v := 1) dL_law_692 rfl (by decide) ?_
  refine aw_iadd dL_law_693 rfl ?_
  refine aw_sldX dL_law_694 rfl k.1 ?_
  replace k := k.2
  refine aw_aload_n (j := 1) (i := 0) dL_law_695 rfl rfl rfl ?_
  refine aw_iload (j := 5) (i := 4) dL_law_696 rfl rfl ?_
  refine aw_iconst (v := 2) dL_law_698 rfl (by decide) ?_
  refine aw_iadd dL_law_699 rfl ?_
  refine aw_sldX dL_law_700 rfl k.1 ?_
  replace k := k.2
  refine aw_callV (M' := mX12_need) (S := []) (as := [vI (sc (x4 + 1).toNatClampNeg), vI (sc (x4 + 2).toNatClampNeg)]) (k := 0) dL_law_701 rfl (by decide) rfl rfl gh_1780 gh_1781 gh_1782 mb_X12_need rfl (Nat.zero_le _) (Nat.le_of_ble_eq_true rfl) rfl (CL.imp k (fun _ h3 k => ?_) (fun _ _ k => k))
  obtain ⟨r4, rfl, k⟩ := oI_of k
  show AW (oa_X nS sc) (d + 1) _ mL_law 704 _ [vI r4] h3 Qr Qx
  refine aw_istore (i := 6) (L2 := [(6, vI r4), (5, vI r2), (0, vR 2000 0), (1, vR 11 0), (2, vR 12 0), (3, vR 66 0), (4, vI x4)]) dL_law_704 rfl (by decide) rfl ?_
  refine aw_aload_n (j := 4) (i := 2) dL_law_706 rfl rfl rfl ?_
  refine aw_callV (M' := mX12_thrown) (S := []) (as := []) (k := 0) dL_law_707 rfl (by decide) rfl rfl gh_1560 gh_1561 gh_1562 mb_X12_thrown rfl (Nat.zero_le _) (Nat.le_of_ble_eq_true rfl) rfl (CL.imp k (fun _ h5 k => ?_) (fun _ _ k => k))
  obtain ⟨r6, rfl, k⟩ := oI_of k
  show AW (oa_X nS sc) (d + 1) _ mL_law 710 _ [vI r6] h5 Qr Qx
  refine aw_iload (j := 1) (i := 5) dL_law_710 rfl rfl ?_
  refine aw_icmp_eq 717 dL_law_712 rfl rfl (fun c => ?_) (fun c => ?_)
  · replace k := k.1 c
    refine aw_iload (j := 1) (i := 5) dL_law_717 rfl rfl ?_
    refine aw_if_ne 734 dL_law_719 rfl rfl (fun c => ?_) (fun c => ?_)
    · replace k := k.1 c
      refine aw_goto 3140 dL_law_734 rfl ?_
      exact AW.mono (Nat.le_refl _) (by omega) (aw_sub [2, 3, 4, 5, 6] rfl k)
    · replace k := k.2 c
      refine aw_aload_n (j := 5) (i := 3) dL_law_722 rfl rfl rfl ?_
      refine aw_iconst (v := 0) dL_law_723 rfl (by decide) ?_
      refine aw_lald dL_law_724 rfl (by decide) rfl (by unfold vp_in; decide) ?_
      refine aw_iload (j := 0) (i := 6) dL_law_725 rfl rfl ?_
      refine aw_i2l dL_law_727 rfl ?_
      refine aw_lcmp dL_law_728 rfl ?_
      refine aw_if_eq 734 dL_law_729 rfl rfl (fun c => ?_) (fun c => ?_)
      · replace k := k.1 c
        refine aw_goto 3140 dL_law_734 rfl ?_
        exact AW.mono (Nat.le_refl _) (by omega) (aw_sub [2, 3, 4, 5, 6] rfl k)
      · replace k := k.2 c
        refine aw_iconst (v := 0) dL_law_732 rfl (by decide) ?_
        exact aw_zret dL_law_733 rfl (by decide) k
  · replace k := k.2 c
    refine aw_iconst (v := 0) dL_law_715 rfl (by decide) ?_
    exact aw_zret dL_law_716 rfl (by decide) k
set_option maxHeartbeats 4000000 in
set_option maxRecDepth 100000 in
theorem vc_L_law_737 {nS : Nat} {sc : Nat → Int32} {d rb : Nat} {h : Hp} {Qr : Option AV → Hp → Prop} {Qx : String → Hp → Prop} {x4 : Int32} (k : (vp_in (x4 + 1) nS) ∧ CLH 1 d mL_level [vR 11 0, vI (sc (x4 + 1).toNatClampNeg), vR 66 0] h (oI fun r2 h1 => (vp_in (x4 + 1) nS) ∧ CL 0 d mX12_level [vR 12 0, vI (sc (x4 + 1).toNatClampNeg)] h1 (oI fun r4 h3 => CL 0 d mX12_thrown [vR 12 0] h3 (oI fun r6 h5 => ((r6 = r2) → ((¬ r2 = 0) → AW (oa_X nS sc) (d + 1) rb mL_law 3140 [(0, vR 2000 0), (1, vR 11 0), (2, vR 12 0), (3, vR 66 0), (4, vI x4)] [] h5 Qr Qx) ∧ ((r2 = 0) → (((lg_cmp (h5.2.1 66 0 0) r4.toInt64) = 0) → AW (oa_X nS sc) (d + 1) rb mL_law 3140 [(0, vR 2000 0), (1, vR 11 0), (2, vR 12 0), (3, vR 66 0), (4, vI x4)] [] h5 Qr Qx) ∧ ((¬ (lg_cmp (h5.2.1 66 0 0) r4.toInt64) = 0) → Qr (some (vI 0)) h5))) ∧ ((¬ r6 = r2) → Qr (some (vI 0)) h5)) Qx) Qx) Qx) : AW (oa_X nS sc) (d + 1) (rb + 1) mL_law 737 [(0, vR 2000 0), (1, vR 11 0), (2, vR 12 0), (3, vR 66 0), (4, vI x4)] [] h Qr Qx := by
  refine aw_aload_n (j := 1) (i := 1) dL_law_737 rfl rfl rfl ?_
  refine aw_aload_n (j := 0) (i := 0) dL_law_738 rfl rfl rfl ?_
  refine aw_iload (j := 4) (i := 4) dL_law_739 rfl rfl ?_
  refine aw_iconst (v := 1) dL_law_741 rfl (by decide) ?_
  refine aw_iadd dL_law_742 rfl ?_
  refine aw_sldX dL_law_743 rfl k.1 ?_
  replace k := k.2
  refine aw_aload_n (j := 3) (i := 3) dL_law_744 rfl rfl rfl ?_
  refine aw_callSH (M' := mL_level) (S := []) (as := [vR 11 0, vI (sc (x4 + 1).toNatClampNeg), vR 66 0]) (k := 1) dL_law_745 rfl gh_1109 gh_1110 mb_L_level rfl (by omega) (Nat.le_of_ble_eq_true rfl) rfl (CLH.imp k (fun _ h1 k => ?_) (fun _ _ k => k))
  obtain ⟨r2, rfl, k⟩ := oI_of k
  show AW (oa_X nS sc) (d + 1) rb mL_law 748 _ [vI r2] h1 Qr Qx
  refine aw_istore (i := 5) (L2 := [(5, vI r2), (0, vR 2000 0), (1, vR 11 0), (2, vR 12 0), (3, vR 66 0), (4, vI x4)]) dL_law_748 rfl (by decide) rfl ?_
  refine aw_aload_n (j := 3) (i := 2) dL_law_750 rfl rfl rfl ?_
  refine aw_aload_n (j := 1) (i := 0) dL_law_751 rfl rfl rfl ?_
  refine aw_iload (j := 5) (i := 4) dL_law_752 rfl rfl ?_
  refine aw_iconst (v := 1) dL_law_754 rfl (by decide) ?_
  refine aw_iadd dL_law_755 rfl ?_
  refine aw_sldX dL_law_756 rfl k.1 ?_
  replace k := k.2
  refine aw_callV (M' := mX12_level) (S := []) (as := [vI (sc (x4 + 1).toNatClampNeg)]) (k := 0) dL_law_757 rfl (by decide) rfl rfl gh_1792 gh_1793 gh_1794 mb_X12_level rfl (Nat.zero_le _) (Nat.le_of_ble_eq_true rfl) rfl (CL.imp k (fun _ h3 k => ?_) (fun _ _ k => k))
  obtain ⟨r4, rfl, k⟩ := oI_of k
  show AW (oa_X nS sc) (d + 1) _ mL_law 760 _ [vI r4] h3 Qr Qx
  refine aw_istore (i := 6) (L2 := [(6, vI r4), (5, vI r2), (0, vR 2000 0), (1, vR 11 0), (2, vR 12 0), (3, vR 66 0), (4, vI x4)]) dL_law_760 rfl (by decide) rfl ?_
  refine aw_aload_n (j := 4) (i := 2) dL_law_762 rfl rfl rfl ?_
  refine aw_callV (M' := mX12_thrown) (S := []) (as := []) (k := 0) dL_law_763 rfl (by decide) rfl rfl gh_1560 gh_1561 gh_1562 mb_X12_thrown rfl (Nat.zero_le _) (Nat.le_of_ble_eq_true rfl) rfl (CL.imp k (fun _ h5 k => ?_) (fun _ _ k => k))
  obtain ⟨r6, rfl, k⟩ := oI_of k
  show AW (oa_X nS sc) (d + 1) _ mL_law 766 _ [vI r6] h5 Qr Qx
  refine aw_iload (j := 1) (i := 5) dL_law_766 rfl rfl ?_
  refine aw_icmp_eq 773 dL_law_768 rfl rfl (fun c => ?_) (fun c => ?_)
  · replace k := k.1 c
    refine aw_iload (j := 1) (i := 5) dL_law_773 rfl rfl ?_
    refine aw_if_ne 790 dL_law_775 rfl rfl (fun c => ?_) (fun c => ?_)
    · replace k := k.1 c
      refine aw_goto 3140 dL_law_790 rfl ?_
      exact AW.mono (Nat.le_refl _) (by omega) (aw_sub [2, 3, 4, 5, 6] rfl k)
    · replace k := k.2 c
      refine aw_aload_n (j := 5) (i := 3) dL_law_778 rfl rfl rfl ?_
      refine aw_iconst (v := 0) dL_law_779 rfl (by decide) ?_
      refine aw_lald dL_law_780 rfl (by decide) rfl (by unfold vp_in; decide) ?_
      refine aw_iload (j := 0) (i := 6) dL_law_781 rfl rfl ?_
      refine aw_i2l dL_law_783 rfl ?_
      refine aw_lcmp dL_law_784 rfl ?_
      refine aw_if_eq 790 dL_law_785 rfl rfl (fun c => ?_) (fun c => ?_)
      · replace k := k.1 c
        refine aw_goto 3140 dL_law_790 rfl ?_
        exact AW.mono (Nat.le_refl _) (by omega) (aw_sub [2, 3, 4, 5, 6] rfl k)
      · replace k := k.2 c
        refine aw_iconst (v := 0) dL_law_788 rfl (by decide) ?_
        exact aw_zret dL_law_789 rfl (by decide) k
  · replace k := k.2 c
    refine aw_iconst (v := 0) dL_law_771 rfl (by decide) ?_
    exact aw_zret dL_law_772 rfl (by decide) k
set_option maxHeartbeats 4000000 in
set_option maxRecDepth 100000 in
theorem vc_L_law_793 {nS : Nat} {sc : Nat → Int32} {d rb : Nat} {h : Hp} {Qr : Option AV → Hp → Prop} {Qx : String → Hp → Prop} {x4 : Int32} (k : (vp_in (x4 + 1) nS) ∧ CLH 1 d mL_pieces [vR 11 0, vI (sc (x4 + 1).toNatClampNeg), vR 66 0] h (oI fun r2 h1 => (vp_in (x4 + 1) nS) ∧ CL 0 d mX12_pieces [vR 12 0, vI (sc (x4 + 1).toNatClampNeg)] h1 (oI fun r4 h3 => CL 0 d mX12_thrown [vR 12 0] h3 (oI fun r6 h5 => ((r6 = r2) → ((¬ r2 = 0) → AW (oa_X nS sc) (d + 1) rb mL_law 3140 [(0, vR 2000 0), (1, vR 11 0), (2, vR 12 0), (3, vR 66 0), (4, vI x4)] [] h5 Qr Qx) ∧ ((r2 = 0) → (((lg_cmp (h5.2.1 66 0 0) r4.toInt64) = 0) → AW (oa_X nS sc) (d + 1) rb mL_law 3140 [(0, vR 2000 0), (1, vR 11 0), (2, vR 12 0), (3, vR 66 0), (4, vI x4)] [] h5 Qr Qx) ∧ ((¬ (lg_cmp (h5.2.1 66 0 0) r4.toInt64) = 0) → Qr (some (vI 0)) h5))) ∧ ((¬ r6 = r2) → Qr (some (vI 0)) h5)) Qx) Qx) Qx) : AW (oa_X nS sc) (d + 1) (rb + 1) mL_law 793 [(0, vR 2000 0), (1, vR 11 0), (2, vR 12 0), (3, vR 66 0), (4, vI x4)] [] h Qr Qx := by
  refine aw_aload_n (j := 1) (i := 1) dL_law_793 rfl rfl rfl ?_
  refine aw_aload_n (j := 0) (i := 0) dL_law_794 rfl rfl rfl ?_
  refine aw_iload (j := 4) (i := 4) dL_law_795 rfl rfl ?_
  refine aw_iconst (v := 1) dL_law_797 rfl (by decide) ?_
  refine aw_iadd dL_law_798 rfl ?_
  refine aw_sldX dL_law_799 rfl k.1 ?_
  replace k := k.2
  refine aw_aload_n (j := 3) (i := 3) dL_law_800 rfl rfl rfl ?_
  refine aw_callSH (M' := mL_pieces) (S := []) (as := [vR 11 0, vI (sc (x4 + 1).toNatClampNeg), vR 66 0]) (k := 1) dL_law_801 rfl gh_1117 gh_1118 mb_L_pieces rfl (by omega) (Nat.le_of_ble_eq_true rfl) rfl (CLH.imp k (fun _ h1 k => ?_) (fun _ _ k => k))
  obtain ⟨r2, rfl, k⟩ := oI_of k
  show AW (oa_X nS sc) (d + 1) rb mL_law 804 _ [vI r2] h1 Qr Qx
  refine aw_istore (i := 5) (L2 := [(5, vI r2), (0, vR 2000 0), (1, vR 11 0), (2, vR 12 0), (3, vR 66 0), (4, vI x4)]) dL_law_804 rfl (by decide) rfl ?_
  refine aw_aload_n (j := 3) (i := 2) dL_law_806 rfl rfl rfl ?_
  refine aw_aload_n (j := 1) (i := 0) dL_law_807 rfl rfl rfl ?_
  refine aw_iload (j := 5) (i := 4) dL_law_808 rfl rfl ?_
  refine aw_iconst (v := 1) dL_law_810 rfl (by decide) ?_
  refine aw_iadd dL_law_811 rfl ?_
  refine aw_sldX dL_law_812 rfl k.1 ?_
  replace k := k.2
  refine aw_callV (M' := mX12_pieces) (S := []) (as := [vI (sc (x4 + 1).toNatClampNeg)]) (k := 0) dL_law_813 rfl (by decide) rfl rfl gh_1801 gh_1802 gh_1803 mb_X12_pieces rfl (Nat.zero_le _) (Nat.le_of_ble_eq_true rfl) rfl (CL.imp k (fun _ h3 k => ?_) (fun _ _ k => k))
  obtain ⟨r4, rfl, k⟩ := oI_of k
  show AW (oa_X nS sc) (d + 1) _ mL_law 816 _ [vI r4] h3 Qr Qx
  refine aw_istore (i := 6) (L2 := [(6, vI r4), (5, vI r2), (0, vR 2000 0), (1, vR 11 0), (2, vR 12 0), (3, vR 66 0), (4, vI x4)]) dL_law_816 rfl (by decide) rfl ?_
  refine aw_aload_n (j := 4) (i := 2) dL_law_818 rfl rfl rfl ?_
  refine aw_callV (M' := mX12_thrown) (S := []) (as := []) (k := 0) dL_law_819 rfl (by decide) rfl rfl gh_1560 gh_1561 gh_1562 mb_X12_thrown rfl (Nat.zero_le _) (Nat.le_of_ble_eq_true rfl) rfl (CL.imp k (fun _ h5 k => ?_) (fun _ _ k => k))
  obtain ⟨r6, rfl, k⟩ := oI_of k
  show AW (oa_X nS sc) (d + 1) _ mL_law 822 _ [vI r6] h5 Qr Qx
  refine aw_iload (j := 1) (i := 5) dL_law_822 rfl rfl ?_
  refine aw_icmp_eq 829 dL_law_824 rfl rfl (fun c => ?_) (fun c => ?_)
  · replace k := k.1 c
    refine aw_iload (j := 1) (i := 5) dL_law_829 rfl rfl ?_
    refine aw_if_ne 846 dL_law_831 rfl rfl (fun c => ?_) (fun c => ?_)
    · replace k := k.1 c
      refine aw_goto 3140 dL_law_846 rfl ?_
      exact AW.mono (Nat.le_refl _) (by omega) (aw_sub [2, 3, 4, 5, 6] rfl k)
    · replace k := k.2 c
      refine aw_aload_n (j := 5) (i := 3) dL_law_834 rfl rfl rfl ?_
      refine aw_iconst (v := 0) dL_law_835 rfl (by decide) ?_
      refine aw_lald dL_law_836 rfl (by decide) rfl (by unfold vp_in; decide) ?_
      refine aw_iload (j := 0) (i := 6) dL_law_837 rfl rfl ?_
      refine aw_i2l dL_law_839 rfl ?_
      refine aw_lcmp dL_law_840 rfl ?_
      refine aw_if_eq 846 dL_law_841 rfl rfl (fun c => ?_) (fun c => ?_)
      · replace k := k.1 c
        refine aw_goto 3140 dL_law_846 rfl ?_
        exact AW.mono (Nat.le_refl _) (by omega) (aw_sub [2, 3, 4, 5, 6] rfl k)
      · replace k := k.2 c
        refine aw_iconst (v := 0) dL_law_844 rfl (by decide) ?_
        exact aw_zret dL_law_845 rfl (by decide) k
  · replace k := k.2 c
    refine aw_iconst (v := 0) dL_law_827 rfl (by decide) ?_
    exact aw_zret dL_law_828 rfl (by decide) k
set_option maxHeartbeats 4000000 in
set_option maxRecDepth 100000 in
theorem vc_L_law_849 {nS : Nat} {sc : Nat → Int32} {d rb : Nat} {h : Hp} {Qr : Option AV → Hp → Prop} {Qx : String → Hp → Prop} {x4 : Int32} (k : (vp_in (x4 + 1) nS) ∧ CLH 1 d mL_usedBy [vR 11 0, vI (sc (x4 + 1).toNatClampNeg), vR 66 0] h (oI fun r2 h1 => (vp_in (x4 + 1) nS) ∧ CL 0 d mX12_usedBy [vR 12 0, vI (sc (x4 + 1).toNatClampNeg)] h1 (oI fun r4 h3 => CL 0 d mX12_thrown [vR 12 0] h3 (oI fun r6 h5 => ((r6 = r2) → ((¬ r2 = 0) → AW (oa_X nS sc) (d + 1) rb mL_law 3140 [(0, vR 2000 0), (1, vR 11 0), (2, vR 12 0), (3, vR 66 0), (4, vI x4)] [] h5 Qr Qx) ∧ ((r2 = 0) → (((lg_cmp (h5.2.1 66 0 0) r4.toInt64) = 0) → AW (oa_X nS sc) (d + 1) rb mL_law 3140 [(0, vR 2000 0), (1, vR 11 0), (2, vR 12 0), (3, vR 66 0), (4, vI x4)] [] h5 Qr Qx) ∧ ((¬ (lg_cmp (h5.2.1 66 0 0) r4.toInt64) = 0) → Qr (some (vI 0)) h5))) ∧ ((¬ r6 = r2) → Qr (some (vI 0)) h5)) Qx) Qx) Qx) : AW (oa_X nS sc) (d + 1) (rb + 1) mL_law 849 [(0, vR 2000 0), (1, vR 11 0), (2, vR 12 0), (3, vR 66 0), (4, vI x4)] [] h Qr Qx := by
  refine aw_aload_n (j := 1) (i := 1) dL_law_849 rfl rfl rfl ?_
  refine aw_aload_n (j := 0) (i := 0) dL_law_850 rfl rfl rfl ?_
  refine aw_iload (j := 4) (i := 4) dL_law_851 rfl rfl ?_
  refine aw_iconst (v := 1) dL_law_853 rfl (by decide) ?_
  refine aw_iadd dL_law_854 rfl ?_
  refine aw_sldX dL_law_855 rfl k.1 ?_
  replace k := k.2
  refine aw_aload_n (j := 3) (i := 3) dL_law_856 rfl rfl rfl ?_
  refine aw_callSH (M' := mL_usedBy) (S := []) (as := [vR 11 0, vI (sc (x4 + 1).toNatClampNeg), vR 66 0]) (k := 1) dL_law_857 rfl gh_1124 gh_1125 mb_L_usedBy rfl (by omega) (Nat.le_of_ble_eq_true rfl) rfl (CLH.imp k (fun _ h1 k => ?_) (fun _ _ k => k))
  obtain ⟨r2, rfl, k⟩ := oI_of k
  show AW (oa_X nS sc) (d + 1) rb mL_law 860 _ [vI r2] h1 Qr Qx
  refine aw_istore (i := 5) (L2 := [(5, vI r2), (0, vR 2000 0), (1, vR 11 0), (2, vR 12 0), (3, vR 66 0), (4, vI x4)]) dL_law_860 rfl (by decide) rfl ?_
  refine aw_aload_n (j := 3) (i := 2) dL_law_862 rfl rfl rfl ?_
  refine aw_aload_n (j := 1) (i := 0) dL_law_863 rfl rfl rfl ?_
  refine aw_iload (j := 5) (i := 4) dL_law_864 rfl rfl ?_
  refine aw_iconst (v := 1) dL_law_866 rfl (by decide) ?_
  refine aw_iadd dL_law_867 rfl ?_
  refine aw_sldX dL_law_868 rfl k.1 ?_
  replace k := k.2
  refine aw_callV (M' := mX12_usedBy) (S := []) (as := [vI (sc (x4 + 1).toNatClampNeg)]) (k := 0) dL_law_869 rfl (by decide) rfl rfl gh_1805 gh_1806 gh_1807 mb_X12_usedBy rfl (Nat.zero_le _) (Nat.le_of_ble_eq_true rfl) rfl (CL.imp k (fun _ h3 k => ?_) (fun _ _ k => k))
  obtain ⟨r4, rfl, k⟩ := oI_of k
  show AW (oa_X nS sc) (d + 1) _ mL_law 872 _ [vI r4] h3 Qr Qx
  refine aw_istore (i := 6) (L2 := [(6, vI r4), (5, vI r2), (0, vR 2000 0), (1, vR 11 0), (2, vR 12 0), (3, vR 66 0), (4, vI x4)]) dL_law_872 rfl (by decide) rfl ?_
  refine aw_aload_n (j := 4) (i := 2) dL_law_874 rfl rfl rfl ?_
  refine aw_callV (M' := mX12_thrown) (S := []) (as := []) (k := 0) dL_law_875 rfl (by decide) rfl rfl gh_1560 gh_1561 gh_1562 mb_X12_thrown rfl (Nat.zero_le _) (Nat.le_of_ble_eq_true rfl) rfl (CL.imp k (fun _ h5 k => ?_) (fun _ _ k => k))
  obtain ⟨r6, rfl, k⟩ := oI_of k
  show AW (oa_X nS sc) (d + 1) _ mL_law 878 _ [vI r6] h5 Qr Qx
  refine aw_iload (j := 1) (i := 5) dL_law_878 rfl rfl ?_
  refine aw_icmp_eq 885 dL_law_880 rfl rfl (fun c => ?_) (fun c => ?_)
  · replace k := k.1 c
    refine aw_iload (j := 1) (i := 5) dL_law_885 rfl rfl ?_
    refine aw_if_ne 902 dL_law_887 rfl rfl (fun c => ?_) (fun c => ?_)
    · replace k := k.1 c
      refine aw_goto 3140 dL_law_902 rfl ?_
      exact AW.mono (Nat.le_refl _) (by omega) (aw_sub [2, 3, 4, 5, 6] rfl k)
    · replace k := k.2 c
      refine aw_aload_n (j := 5) (i := 3) dL_law_890 rfl rfl rfl ?_
      refine aw_iconst (v := 0) dL_law_891 rfl (by decide) ?_
      refine aw_lald dL_law_892 rfl (by decide) rfl (by unfold vp_in; decide) ?_
      refine aw_iload (j := 0) (i := 6) dL_law_893 rfl rfl ?_
      refine aw_i2l dL_law_895 rfl ?_
      refine aw_lcmp dL_law_896 rfl ?_
      refine aw_if_eq 902 dL_law_897 rfl rfl (fun c => ?_) (fun c => ?_)
      · replace k := k.1 c
        refine aw_goto 3140 dL_law_902 rfl ?_
        exact AW.mono (Nat.le_refl _) (by omega) (aw_sub [2, 3, 4, 5, 6] rfl k)
      · replace k := k.2 c
        refine aw_iconst (v := 0) dL_law_900 rfl (by decide) ?_
        exact aw_zret dL_law_901 rfl (by decide) k
  · replace k := k.2 c
    refine aw_iconst (v := 0) dL_law_883 rfl (by decide) ?_
    exact aw_zret dL_law_884 rfl (by decide) k
set_option maxHeartbeats 4000000 in
set_option maxRecDepth 100000 in
theorem vc_L_law_905 {nS : Nat} {sc : Nat → Int32} {d rb : Nat} {h : Hp} {Qr : Option AV → Hp → Prop} {Qx : String → Hp → Prop} {x4 : Int32} (k : (vp_in (x4 + 1) nS) ∧ (vp_in (x4 + 2) nS) ∧ CLH 1 d mL_commonParts [vR 11 0, vI (sc (x4 + 1).toNatClampNeg), vI (sc (x4 + 2).toNatClampNeg), vR 66 0] h (oI fun r2 h1 => (vp_in (x4 + 1) nS) ∧ (vp_in (x4 + 2) nS) ∧ CL 0 d mX12_commonParts [vR 12 0, vI (sc (x4 + 1).toNatClampNeg), vI (sc (x4 + 2).toNatClampNeg)] h1 (oI fun r4 h3 => CL 0 d mX12_thrown [vR 12 0] h3 (oI fun r6 h5 => ((r6 = r2) → ((¬ r2 = 0) → AW (oa_X nS sc) (d + 1) rb mL_law 3140 [(0, vR 2000 0), (1, vR 11 0), (2, vR 12 0), (3, vR 66 0), (4, vI x4)] [] h5 Qr Qx) ∧ ((r2 = 0) → (((lg_cmp (h5.2.1 66 0 0) r4.toInt64) = 0) → AW (oa_X nS sc) (d + 1) rb mL_law 3140 [(0, vR 2000 0), (1, vR 11 0), (2, vR 12 0), (3, vR 66 0), (4, vI x4)] [] h5 Qr Qx) ∧ ((¬ (lg_cmp (h5.2.1 66 0 0) r4.toInt64) = 0) → Qr (some (vI 0)) h5))) ∧ ((¬ r6 = r2) → Qr (some (vI 0)) h5)) Qx) Qx) Qx) : AW (oa_X nS sc) (d + 1) (rb + 1) mL_law 905 [(0, vR 2000 0), (1, vR 11 0), (2, vR 12 0), (3, vR 66 0), (4, vI x4)] [] h Qr Qx := by
  refine aw_aload_n (j := 1) (i := 1) dL_law_905 rfl rfl rfl ?_
  refine aw_aload_n (j := 0) (i := 0) dL_law_906 rfl rfl rfl ?_
  refine aw_iload (j := 4) (i := 4) dL_law_907 rfl rfl ?_
  refine aw_iconst (v := 1) dL_law_909 rfl (by decide) ?_
  refine aw_iadd dL_law_910 rfl ?_
  refine aw_sldX dL_law_911 rfl k.1 ?_
  replace k := k.2
  refine aw_aload_n (j := 0) (i := 0) dL_law_912 rfl rfl rfl ?_
  refine aw_iload (j := 4) (i := 4) dL_law_913 rfl rfl ?_
  refine aw_iconst (v := 2) dL_law_915 rfl (by decide) ?_
  refine aw_iadd dL_law_916 rfl ?_
  refine aw_sldX dL_law_917 rfl k.1 ?_
  replace k := k.2
  refine aw_aload_n (j := 3) (i := 3) dL_law_918 rfl rfl rfl ?_
  refine aw_callSH (M' := mL_commonParts) (S := []) (as := [vR 11 0, vI (sc (x4 + 1).toNatClampNeg), vI (sc (x4 + 2).toNatClampNeg), vR 66 0]) (k := 1) dL_law_919 rfl gh_1131 gh_1132 mb_L_commonParts rfl (by omega) (Nat.le_of_ble_eq_true rfl) rfl (CLH.imp k (fun _ h1 k => ?_) (fun _ _ k => k))
  obtain ⟨r2, rfl, k⟩ := oI_of k
  show AW (oa_X nS sc) (d + 1) rb mL_law 922 _ [vI r2] h1 Qr Qx
  refine aw_istore (i := 5) (L2 := [(5, vI r2), (0, vR 2000 0), (1, vR 11 0), (2, vR 12 0), (3, vR 66 0), (4, vI x4)]) dL_law_922 rfl (by decide) rfl ?_
  refine aw_aload_n (j := 3) (i := 2) dL_law_924 rfl rfl rfl ?_
  refine aw_aload_n (j := 1) (i := 0) dL_law_925 rfl rfl rfl ?_
  refine aw_iload (j := 5) (i := 4) dL_law_926 rfl rfl ?_
  refine aw_iconst (v := 1) dL_law_928 rfl (by decide) ?_
  refine aw_iadd dL_law_929 rfl ?_
  refine aw_sldX dL_law_930 rfl k.1 ?_
  replace k := k.2
  refine aw_aload_n (j := 1) (i := 0) dL_law_931 rfl rfl rfl ?_
  refine aw_iload (j := 5) (i := 4) dL_law_932 rfl rfl ?_
  refine aw_iconst (v := 2) dL_law_934 rfl (by decide) ?_
  refine aw_iadd dL_law_935 rfl ?_
  refine aw_sldX dL_law_936 rfl k.1 ?_
  replace k := k.2
  refine aw_callV (M' := mX12_commonParts) (S := []) (as := [vI (sc (x4 + 1).toNatClampNeg), vI (sc (x4 + 2).toNatClampNeg)]) (k := 0) dL_law_937 rfl (by decide) rfl rfl gh_1809 gh_1810 gh_1811 mb_X12_commonParts rfl (Nat.zero_le _) (Nat.le_of_ble_eq_true rfl) rfl (CL.imp k (fun _ h3 k => ?_) (fun _ _ k => k))
  obtain ⟨r4, rfl, k⟩ := oI_of k
  show AW (oa_X nS sc) (d + 1) _ mL_law 940 _ [vI r4] h3 Qr Qx
  refine aw_istore (i := 6) (L2 := [(6, vI r4), (5, vI r2), (0, vR 2000 0), (1, vR 11 0), (2, vR 12 0), (3, vR 66 0), (4, vI x4)]) dL_law_940 rfl (by decide) rfl ?_
  refine aw_aload_n (j := 4) (i := 2) dL_law_942 rfl rfl rfl ?_
  refine aw_callV (M' := mX12_thrown) (S := []) (as := []) (k := 0) dL_law_943 rfl (by decide) rfl rfl gh_1560 gh_1561 gh_1562 mb_X12_thrown rfl (Nat.zero_le _) (Nat.le_of_ble_eq_true rfl) rfl (CL.imp k (fun _ h5 k => ?_) (fun _ _ k => k))
  obtain ⟨r6, rfl, k⟩ := oI_of k
  show AW (oa_X nS sc) (d + 1) _ mL_law 946 _ [vI r6] h5 Qr Qx
  refine aw_iload (j := 1) (i := 5) dL_law_946 rfl rfl ?_
  refine aw_icmp_eq 953 dL_law_948 rfl rfl (fun c => ?_) (fun c => ?_)
  · replace k := k.1 c
    refine aw_iload (j := 1) (i := 5) dL_law_953 rfl rfl ?_
    refine aw_if_ne 970 dL_law_955 rfl rfl (fun c => ?_) (fun c => ?_)
    · replace k := k.1 c
      refine aw_goto 3140 dL_law_970 rfl ?_
      exact AW.mono (Nat.le_refl _) (by omega) (aw_sub [2, 3, 4, 5, 6] rfl k)
    · replace k := k.2 c
      refine aw_aload_n (j := 5) (i := 3) dL_law_958 rfl rfl rfl ?_
      refine aw_iconst (v := 0) dL_law_959 rfl (by decide) ?_
      refine aw_lald dL_law_960 rfl (by decide) rfl (by unfold vp_in; decide) ?_
      refine aw_iload (j := 0) (i := 6) dL_law_961 rfl rfl ?_
      refine aw_i2l dL_law_963 rfl ?_
      refine aw_lcmp dL_law_964 rfl ?_
      refine aw_if_eq 970 dL_law_965 rfl rfl (fun c => ?_) (fun c => ?_)
      · replace k := k.1 c
        refine aw_goto 3140 dL_law_970 rfl ?_
        exact AW.mono (Nat.le_refl _) (by omega) (aw_sub [2, 3, 4, 5, 6] rfl k)
      · replace k := k.2 c
        refine aw_iconst (v := 0) dL_law_968 rfl (by decide) ?_
        exact aw_zret dL_law_969 rfl (by decide) k
  · replace k := k.2 c
    refine aw_iconst (v := 0) dL_law_951 rfl (by decide) ?_
    exact aw_zret dL_law_952 rfl (by decide) k
set_option maxHeartbeats 4000000 in
set_option maxRecDepth 100000 in
theorem vc_L_law_973 {nS : Nat} {sc : Nat → Int32} {d rb : Nat} {h : Hp} {Qr : Option AV → Hp → Prop} {Qx : String → Hp → Prop} {x4 : Int32} (k : CL 0 d mX11_day [vR 11 0] h (oI fun r2 h1 => CL 0 d mX12_day [vR 12 0] h1 (oI fun r4 h3 => ((r2 = r4) → AW (oa_X nS sc) (d + 1) rb mL_law 3140 [(0, vR 2000 0), (1, vR 11 0), (2, vR 12 0), (3, vR 66 0), (4, vI x4)] [] h3 Qr Qx) ∧ ((¬ r2 = r4) → Qr (some (vI 0)) h3)) Qx) Qx) : AW (oa_X nS sc) (d + 1) (rb + 1) mL_law 973 [(0, vR 2000 0), (1, vR 11 0), (2, vR 12 0), (3, vR 66 0), (4, vI x4)] [] h Qr Qx := by
  refine aw_aload_n (j := 1) (i := 1) dL_law_973 rfl rfl rfl ?_
  refine aw_callV (M' := mX11_day) (S := []) (as := []) (k := 0) dL_law_974 rfl (by decide) rfl rfl gh_483 gh_484 gh_485 mb_X11_day rfl (Nat.zero_le _) (Nat.le_of_ble_eq_true rfl) rfl (CL.imp k (fun _ h1 k => ?_) (fun _ _ k => k))
  obtain ⟨r2, rfl, k⟩ := oI_of k
  show AW (oa_X nS sc) (d + 1) _ mL_law 977 _ [vI r2] h1 Qr Qx
  refine aw_aload_n (j := 2) (i := 2) dL_law_977 rfl rfl rfl ?_
  refine aw_callV (M' := mX12_day) (S := [vI r2]) (as := []) (k := 0) dL_law_978 rfl (by decide) rfl rfl gh_1813 gh_1814 gh_1815 mb_X12_day rfl (Nat.zero_le _) (Nat.le_of_ble_eq_true rfl) rfl (CL.imp k (fun _ h3 k => ?_) (fun _ _ k => k))
  obtain ⟨r4, rfl, k⟩ := oI_of k
  show AW (oa_X nS sc) (d + 1) _ mL_law 981 _ [vI r4, vI r2] h3 Qr Qx
  refine aw_icmp_eq 3140 dL_law_981 rfl rfl (fun c => ?_) (fun c => ?_)
  · replace k := k.1 c
    exact AW.mono (Nat.le_refl _) (by omega) (aw_sub [0, 1, 2, 3, 4] rfl k)
  · replace k := k.2 c
    refine aw_iconst (v := 0) dL_law_984 rfl (by decide) ?_
    exact aw_zret dL_law_985 rfl (by decide) k
set_option maxHeartbeats 4000000 in
set_option maxRecDepth 100000 in
theorem vc_L_law_986 {nS : Nat} {sc : Nat → Int32} {d rb : Nat} {h : Hp} {Qr : Option AV → Hp → Prop} {Qx : String → Hp → Prop} {x4 : Int32} (k : (vp_in (x4 + 1) nS) ∧ CLH 1 d mL_stock [vR 11 0, vI (sc (x4 + 1).toNatClampNeg), vR 66 0] h (oI fun r2 h1 => (vp_in (x4 + 1) nS) ∧ CL 0 d mX12_stock [vR 12 0, vI (sc (x4 + 1).toNatClampNeg)] h1 (oI fun r4 h3 => CL 0 d mX12_thrown [vR 12 0] h3 (oI fun r6 h5 => ((r6 = r2) → ((¬ r2 = 0) → AW (oa_X nS sc) (d + 1) rb mL_law 3140 [(0, vR 2000 0), (1, vR 11 0), (2, vR 12 0), (3, vR 66 0), (4, vI x4)] [] h5 Qr Qx) ∧ ((r2 = 0) → (((lg_cmp (h5.2.1 66 0 0) r4.toInt64) = 0) → AW (oa_X nS sc) (d + 1) rb mL_law 3140 [(0, vR 2000 0), (1, vR 11 0), (2, vR 12 0), (3, vR 66 0), (4, vI x4)] [] h5 Qr Qx) ∧ ((¬ (lg_cmp (h5.2.1 66 0 0) r4.toInt64) = 0) → Qr (some (vI 0)) h5))) ∧ ((¬ r6 = r2) → Qr (some (vI 0)) h5)) Qx) Qx) Qx) : AW (oa_X nS sc) (d + 1) (rb + 1) mL_law 986 [(0, vR 2000 0), (1, vR 11 0), (2, vR 12 0), (3, vR 66 0), (4, vI x4)] [] h Qr Qx := by
  refine aw_aload_n (j := 1) (i := 1) dL_law_986 rfl rfl rfl ?_
  refine aw_aload_n (j := 0) (i := 0) dL_law_987 rfl rfl rfl ?_
  refine aw_iload (j := 4) (i := 4) dL_law_988 rfl rfl ?_
  refine aw_iconst (v := 1) dL_law_990 rfl (by decide) ?_
  refine aw_iadd dL_law_991 rfl ?_
  refine aw_sldX dL_law_992 rfl k.1 ?_
  replace k := k.2
  refine aw_aload_n (j := 3) (i := 3) dL_law_993 rfl rfl rfl ?_
  refine aw_callSH (M' := mL_stock) (S := []) (as := [vR 11 0, vI (sc (x4 + 1).toNatClampNeg), vR 66 0]) (k := 1) dL_law_994 rfl gh_1138 gh_1139 mb_L_stock rfl (by omega) (Nat.le_of_ble_eq_true rfl) rfl (CLH.imp k (fun _ h1 k => ?_) (fun _ _ k => k))
  obtain ⟨r2, rfl, k⟩ := oI_of k
  show AW (oa_X nS sc) (d + 1) rb mL_law 997 _ [vI r2] h1 Qr Qx
  refine aw_istore (i := 5) (L2 := [(5, vI r2), (0, vR 2000 0), (1, vR 11 0), (2, vR 12 0), (3, vR 66 0), (4, vI x4)]) dL_law_997 rfl (by decide) rfl ?_
  refine aw_aload_n (j := 3) (i := 2) dL_law_999 rfl rfl rfl ?_
  refine aw_aload_n (j := 1) (i := 0) dL_law_1000 rfl rfl rfl ?_
  refine aw_iload (j := 5) (i := 4) dL_law_1001 rfl rfl ?_
  refine aw_iconst (v := 1) dL_law_1003 rfl (by decide) ?_
  refine aw_iadd dL_law_1004 rfl ?_
  refine aw_sldX dL_law_1005 rfl k.1 ?_
  replace k := k.2
  refine aw_callV (M' := mX12_stock) (S := []) (as := [vI (sc (x4 + 1).toNatClampNeg)]) (k := 0) dL_law_1006 rfl (by decide) rfl rfl gh_1817 gh_1818 gh_1819 mb_X12_stock rfl (Nat.zero_le _) (Nat.le_of_ble_eq_true rfl) rfl (CL.imp k (fun _ h3 k => ?_) (fun _ _ k => k))
  obtain ⟨r4, rfl, k⟩ := oI_of k
  show AW (oa_X nS sc) (d + 1) _ mL_law 1009 _ [vI r4] h3 Qr Qx
  refine aw_istore (i := 6) (L2 := [(6, vI r4), (5, vI r2), (0, vR 2000 0), (1, vR 11 0), (2, vR 12 0), (3, vR 66 0), (4, vI x4)]) dL_law_1009 rfl (by decide) rfl ?_
  refine aw_aload_n (j := 4) (i := 2) dL_law_1011 rfl rfl rfl ?_
  refine aw_callV (M' := mX12_thrown) (S := []) (as := []) (k := 0) dL_law_1012 rfl (by decide) rfl rfl gh_1560 gh_1561 gh_1562 mb_X12_thrown rfl (Nat.zero_le _) (Nat.le_of_ble_eq_true rfl) rfl (CL.imp k (fun _ h5 k => ?_) (fun _ _ k => k))
  obtain ⟨r6, rfl, k⟩ := oI_of k
  show AW (oa_X nS sc) (d + 1) _ mL_law 1015 _ [vI r6] h5 Qr Qx
  refine aw_iload (j := 1) (i := 5) dL_law_1015 rfl rfl ?_
  refine aw_icmp_eq 1022 dL_law_1017 rfl rfl (fun c => ?_) (fun c => ?_)
  · replace k := k.1 c
    refine aw_iload (j := 1) (i := 5) dL_law_1022 rfl rfl ?_
    refine aw_if_ne 1039 dL_law_1024 rfl rfl (fun c => ?_) (fun c => ?_)
    · replace k := k.1 c
      refine aw_goto 3140 dL_law_1039 rfl ?_
      exact AW.mono (Nat.le_refl _) (by omega) (aw_sub [2, 3, 4, 5, 6] rfl k)
    · replace k := k.2 c
      refine aw_aload_n (j := 5) (i := 3) dL_law_1027 rfl rfl rfl ?_
      refine aw_iconst (v := 0) dL_law_1028 rfl (by decide) ?_
      refine aw_lald dL_law_1029 rfl (by decide) rfl (by unfold vp_in; decide) ?_
      refine aw_iload (j := 0) (i := 6) dL_law_1030 rfl rfl ?_
      refine aw_i2l dL_law_1032 rfl ?_
      refine aw_lcmp dL_law_1033 rfl ?_
      refine aw_if_eq 1039 dL_law_1034 rfl rfl (fun c => ?_) (fun c => ?_)
      · replace k := k.1 c
        refine aw_goto 3140 dL_law_1039 rfl ?_
        exact AW.mono (Nat.le_refl _) (by omega) (aw_sub [2, 3, 4, 5, 6] rfl k)
      · replace k := k.2 c
        refine aw_iconst (v := 0) dL_law_1037 rfl (by decide) ?_
        exact aw_zret dL_law_1038 rfl (by decide) k
  · replace k := k.2 c
    refine aw_iconst (v := 0) dL_law_1020 rfl (by decide) ?_
    exact aw_zret dL_law_1021 rfl (by decide) k
set_option maxHeartbeats 4000000 in
set_option maxRecDepth 100000 in
theorem vc_L_law_1042 {nS : Nat} {sc : Nat → Int32} {d rb : Nat} {h : Hp} {Qr : Option AV → Hp → Prop} {Qx : String → Hp → Prop} {x4 : Int32} (k : (vp_in (x4 + 1) nS) ∧ CLH 1 d mL_reserved [vR 11 0, vI (sc (x4 + 1).toNatClampNeg), vR 66 0] h (oI fun r2 h1 => (vp_in (x4 + 1) nS) ∧ CL 0 d mX12_reserved [vR 12 0, vI (sc (x4 + 1).toNatClampNeg)] h1 (oI fun r4 h3 => CL 0 d mX12_thrown [vR 12 0] h3 (oI fun r6 h5 => ((r6 = r2) → ((¬ r2 = 0) → AW (oa_X nS sc) (d + 1) rb mL_law 3140 [(0, vR 2000 0), (1, vR 11 0), (2, vR 12 0), (3, vR 66 0), (4, vI x4)] [] h5 Qr Qx) ∧ ((r2 = 0) → (((lg_cmp (h5.2.1 66 0 0) r4.toInt64) = 0) → AW (oa_X nS sc) (d + 1) rb mL_law 3140 [(0, vR 2000 0), (1, vR 11 0), (2, vR 12 0), (3, vR 66 0), (4, vI x4)] [] h5 Qr Qx) ∧ ((¬ (lg_cmp (h5.2.1 66 0 0) r4.toInt64) = 0) → Qr (some (vI 0)) h5))) ∧ ((¬ r6 = r2) → Qr (some (vI 0)) h5)) Qx) Qx) Qx) : AW (oa_X nS sc) (d + 1) (rb + 1) mL_law 1042 [(0, vR 2000 0), (1, vR 11 0), (2, vR 12 0), (3, vR 66 0), (4, vI x4)] [] h Qr Qx := by
  refine aw_aload_n (j := 1) (i := 1) dL_law_1042 rfl rfl rfl ?_
  refine aw_aload_n (j := 0) (i := 0) dL_law_1043 rfl rfl rfl ?_
  refine aw_iload (j := 4) (i := 4) dL_law_1044 rfl rfl ?_
  refine aw_iconst (v := 1) dL_law_1046 rfl (by decide) ?_
  refine aw_iadd dL_law_1047 rfl ?_
  refine aw_sldX dL_law_1048 rfl k.1 ?_
  replace k := k.2
  refine aw_aload_n (j := 3) (i := 3) dL_law_1049 rfl rfl rfl ?_
  refine aw_callSH (M' := mL_reserved) (S := []) (as := [vR 11 0, vI (sc (x4 + 1).toNatClampNeg), vR 66 0]) (k := 1) dL_law_1050 rfl gh_1146 gh_1147 mb_L_reserved rfl (by omega) (Nat.le_of_ble_eq_true rfl) rfl (CLH.imp k (fun _ h1 k => ?_) (fun _ _ k => k))
  obtain ⟨r2, rfl, k⟩ := oI_of k
  show AW (oa_X nS sc) (d + 1) rb mL_law 1053 _ [vI r2] h1 Qr Qx
  refine aw_istore (i := 5) (L2 := [(5, vI r2), (0, vR 2000 0), (1, vR 11 0), (2, vR 12 0), (3, vR 66 0), (4, vI x4)]) dL_law_1053 rfl (by decide) rfl ?_
  refine aw_aload_n (j := 3) (i := 2) dL_law_1055 rfl rfl rfl ?_
  refine aw_aload_n (j := 1) (i := 0) dL_law_1056 rfl rfl rfl ?_
  refine aw_iload (j := 5) (i := 4) dL_law_1057 rfl rfl ?_
  refine aw_iconst (v := 1) dL_law_1059 rfl (by decide) ?_
  refine aw_iadd dL_law_1060 rfl ?_
  refine aw_sldX dL_law_1061 rfl k.1 ?_
  replace k := k.2
  refine aw_callV (M' := mX12_reserved) (S := []) (as := [vI (sc (x4 + 1).toNatClampNeg)]) (k := 0) dL_law_1062 rfl (by decide) rfl rfl gh_1821 gh_1822 gh_1823 mb_X12_reserved rfl (Nat.zero_le _) (Nat.le_of_ble_eq_true rfl) rfl (CL.imp k (fun _ h3 k => ?_) (fun _ _ k => k))
  obtain ⟨r4, rfl, k⟩ := oI_of k
  show AW (oa_X nS sc) (d + 1) _ mL_law 1065 _ [vI r4] h3 Qr Qx
  refine aw_istore (i := 6) (L2 := [(6, vI r4), (5, vI r2), (0, vR 2000 0), (1, vR 11 0), (2, vR 12 0), (3, vR 66 0), (4, vI x4)]) dL_law_1065 rfl (by decide) rfl ?_
  refine aw_aload_n (j := 4) (i := 2) dL_law_1067 rfl rfl rfl ?_
  refine aw_callV (M' := mX12_thrown) (S := []) (as := []) (k := 0) dL_law_1068 rfl (by decide) rfl rfl gh_1560 gh_1561 gh_1562 mb_X12_thrown rfl (Nat.zero_le _) (Nat.le_of_ble_eq_true rfl) rfl (CL.imp k (fun _ h5 k => ?_) (fun _ _ k => k))
  obtain ⟨r6, rfl, k⟩ := oI_of k
  show AW (oa_X nS sc) (d + 1) _ mL_law 1071 _ [vI r6] h5 Qr Qx
  refine aw_iload (j := 1) (i := 5) dL_law_1071 rfl rfl ?_
  refine aw_icmp_eq 1078 dL_law_1073 rfl rfl (fun c => ?_) (fun c => ?_)
  · replace k := k.1 c
    refine aw_iload (j := 1) (i := 5) dL_law_1078 rfl rfl ?_
    refine aw_if_ne 1095 dL_law_1080 rfl rfl (fun c => ?_) (fun c => ?_)
    · replace k := k.1 c
      refine aw_goto 3140 dL_law_1095 rfl ?_
      exact AW.mono (Nat.le_refl _) (by omega) (aw_sub [2, 3, 4, 5, 6] rfl k)
    · replace k := k.2 c
      refine aw_aload_n (j := 5) (i := 3) dL_law_1083 rfl rfl rfl ?_
      refine aw_iconst (v := 0) dL_law_1084 rfl (by decide) ?_
      refine aw_lald dL_law_1085 rfl (by decide) rfl (by unfold vp_in; decide) ?_
      refine aw_iload (j := 0) (i := 6) dL_law_1086 rfl rfl ?_
      refine aw_i2l dL_law_1088 rfl ?_
      refine aw_lcmp dL_law_1089 rfl ?_
      refine aw_if_eq 1095 dL_law_1090 rfl rfl (fun c => ?_) (fun c => ?_)
      · replace k := k.1 c
        refine aw_goto 3140 dL_law_1095 rfl ?_
        exact AW.mono (Nat.le_refl _) (by omega) (aw_sub [2, 3, 4, 5, 6] rfl k)
      · replace k := k.2 c
        refine aw_iconst (v := 0) dL_law_1093 rfl (by decide) ?_
        exact aw_zret dL_law_1094 rfl (by decide) k
  · replace k := k.2 c
    refine aw_iconst (v := 0) dL_law_1076 rfl (by decide) ?_
    exact aw_zret dL_law_1077 rfl (by decide) k
set_option maxHeartbeats 4000000 in
set_option maxRecDepth 100000 in
theorem vc_L_law_1098 {nS : Nat} {sc : Nat → Int32} {d rb : Nat} {h : Hp} {Qr : Option AV → Hp → Prop} {Qx : String → Hp → Prop} {x4 : Int32} (k : (vp_in (x4 + 1) nS) ∧ CLH 1 d mL_arriving [vR 11 0, vI (sc (x4 + 1).toNatClampNeg), vR 66 0] h (oI fun r2 h1 => (vp_in (x4 + 1) nS) ∧ CL 0 d mX12_arriving [vR 12 0, vI (sc (x4 + 1).toNatClampNeg)] h1 (oI fun r4 h3 => CL 0 d mX12_thrown [vR 12 0] h3 (oI fun r6 h5 => ((r6 = r2) → ((¬ r2 = 0) → AW (oa_X nS sc) (d + 1) rb mL_law 3140 [(0, vR 2000 0), (1, vR 11 0), (2, vR 12 0), (3, vR 66 0), (4, vI x4)] [] h5 Qr Qx) ∧ ((r2 = 0) → (((lg_cmp (h5.2.1 66 0 0) r4.toInt64) = 0) → AW (oa_X nS sc) (d + 1) rb mL_law 3140 [(0, vR 2000 0), (1, vR 11 0), (2, vR 12 0), (3, vR 66 0), (4, vI x4)] [] h5 Qr Qx) ∧ ((¬ (lg_cmp (h5.2.1 66 0 0) r4.toInt64) = 0) → Qr (some (vI 0)) h5))) ∧ ((¬ r6 = r2) → Qr (some (vI 0)) h5)) Qx) Qx) Qx) : AW (oa_X nS sc) (d + 1) (rb + 1) mL_law 1098 [(0, vR 2000 0), (1, vR 11 0), (2, vR 12 0), (3, vR 66 0), (4, vI x4)] [] h Qr Qx := by
  refine aw_aload_n (j := 1) (i := 1) dL_law_1098 rfl rfl rfl ?_
  refine aw_aload_n (j := 0) (i := 0) dL_law_1099 rfl rfl rfl ?_
  refine aw_iload (j := 4) (i := 4) dL_law_1100 rfl rfl ?_
  refine aw_iconst (v := 1) dL_law_1102 rfl (by decide) ?_
  refine aw_iadd dL_law_1103 rfl ?_
  refine aw_sldX dL_law_1104 rfl k.1 ?_
  replace k := k.2
  refine aw_aload_n (j := 3) (i := 3) dL_law_1105 rfl rfl rfl ?_
  refine aw_callSH (M' := mL_arriving) (S := []) (as := [vR 11 0, vI (sc (x4 + 1).toNatClampNeg), vR 66 0]) (k := 1) dL_law_1106 rfl gh_1154 gh_1155 mb_L_arriving rfl (by omega) (Nat.le_of_ble_eq_true rfl) rfl (CLH.imp k (fun _ h1 k => ?_) (fun _ _ k => k))
  obtain ⟨r2, rfl, k⟩ := oI_of k
  show AW (oa_X nS sc) (d + 1) rb mL_law 1109 _ [vI r2] h1 Qr Qx
  refine aw_istore (i := 5) (L2 := [(5, vI r2), (0, vR 2000 0), (1, vR 11 0), (2, vR 12 0), (3, vR 66 0), (4, vI x4)]) dL_law_1109 rfl (by decide) rfl ?_
  refine aw_aload_n (j := 3) (i := 2) dL_law_1111 rfl rfl rfl ?_
  refine aw_aload_n (j := 1) (i := 0) dL_law_1112 rfl rfl rfl ?_
  refine aw_iload (j := 5) (i := 4) dL_law_1113 rfl rfl ?_
  refine aw_iconst (v := 1) dL_law_1115 rfl (by decide) ?_
  refine aw_iadd dL_law_1116 rfl ?_
  refine aw_sldX dL_law_1117 rfl k.1 ?_
  replace k := k.2
  refine aw_callV (M' := mX12_arriving) (S := []) (as := [vI (sc (x4 + 1).toNatClampNeg)]) (k := 0) dL_law_1118 rfl (by decide) rfl rfl gh_1825 gh_1826 gh_1827 mb_X12_arriving rfl (Nat.zero_le _) (Nat.le_of_ble_eq_true rfl) rfl (CL.imp k (fun _ h3 k => ?_) (fun _ _ k => k))
  obtain ⟨r4, rfl, k⟩ := oI_of k
  show AW (oa_X nS sc) (d + 1) _ mL_law 1121 _ [vI r4] h3 Qr Qx
  refine aw_istore (i := 6) (L2 := [(6, vI r4), (5, vI r2), (0, vR 2000 0), (1, vR 11 0), (2, vR 12 0), (3, vR 66 0), (4, vI x4)]) dL_law_1121 rfl (by decide) rfl ?_
  refine aw_aload_n (j := 4) (i := 2) dL_law_1123 rfl rfl rfl ?_
  refine aw_callV (M' := mX12_thrown) (S := []) (as := []) (k := 0) dL_law_1124 rfl (by decide) rfl rfl gh_1560 gh_1561 gh_1562 mb_X12_thrown rfl (Nat.zero_le _) (Nat.le_of_ble_eq_true rfl) rfl (CL.imp k (fun _ h5 k => ?_) (fun _ _ k => k))
  obtain ⟨r6, rfl, k⟩ := oI_of k
  show AW (oa_X nS sc) (d + 1) _ mL_law 1127 _ [vI r6] h5 Qr Qx
  refine aw_iload (j := 1) (i := 5) dL_law_1127 rfl rfl ?_
  refine aw_icmp_eq 1134 dL_law_1129 rfl rfl (fun c => ?_) (fun c => ?_)
  · replace k := k.1 c
    refine aw_iload (j := 1) (i := 5) dL_law_1134 rfl rfl ?_
    refine aw_if_ne 1151 dL_law_1136 rfl rfl (fun c => ?_) (fun c => ?_)
    · replace k := k.1 c
      refine aw_goto 3140 dL_law_1151 rfl ?_
      exact AW.mono (Nat.le_refl _) (by omega) (aw_sub [2, 3, 4, 5, 6] rfl k)
    · replace k := k.2 c
      refine aw_aload_n (j := 5) (i := 3) dL_law_1139 rfl rfl rfl ?_
      refine aw_iconst (v := 0) dL_law_1140 rfl (by decide) ?_
      refine aw_lald dL_law_1141 rfl (by decide) rfl (by unfold vp_in; decide) ?_
      refine aw_iload (j := 0) (i := 6) dL_law_1142 rfl rfl ?_
      refine aw_i2l dL_law_1144 rfl ?_
      refine aw_lcmp dL_law_1145 rfl ?_
      refine aw_if_eq 1151 dL_law_1146 rfl rfl (fun c => ?_) (fun c => ?_)
      · replace k := k.1 c
        refine aw_goto 3140 dL_law_1151 rfl ?_
        exact AW.mono (Nat.le_refl _) (by omega) (aw_sub [2, 3, 4, 5, 6] rfl k)
      · replace k := k.2 c
        refine aw_iconst (v := 0) dL_law_1149 rfl (by decide) ?_
        exact aw_zret dL_law_1150 rfl (by decide) k
  · replace k := k.2 c
    refine aw_iconst (v := 0) dL_law_1132 rfl (by decide) ?_
    exact aw_zret dL_law_1133 rfl (by decide) k
set_option maxHeartbeats 4000000 in
set_option maxRecDepth 100000 in
theorem vc_L_law_1154 {nS : Nat} {sc : Nat → Int32} {d rb : Nat} {h : Hp} {Qr : Option AV → Hp → Prop} {Qx : String → Hp → Prop} {x4 : Int32} (k : (vp_in (x4 + 1) nS) ∧ CLH 1 d mL_nextArrival [vR 11 0, vI (sc (x4 + 1).toNatClampNeg), vR 66 0] h (oI fun r2 h1 => (vp_in (x4 + 1) nS) ∧ CL 0 d mX12_nextArrival [vR 12 0, vI (sc (x4 + 1).toNatClampNeg)] h1 (oI fun r4 h3 => CL 0 d mX12_thrown [vR 12 0] h3 (oI fun r6 h5 => ((r6 = r2) → ((¬ r2 = 0) → AW (oa_X nS sc) (d + 1) rb mL_law 3140 [(0, vR 2000 0), (1, vR 11 0), (2, vR 12 0), (3, vR 66 0), (4, vI x4)] [] h5 Qr Qx) ∧ ((r2 = 0) → (((lg_cmp (h5.2.1 66 0 0) r4.toInt64) = 0) → AW (oa_X nS sc) (d + 1) rb mL_law 3140 [(0, vR 2000 0), (1, vR 11 0), (2, vR 12 0), (3, vR 66 0), (4, vI x4)] [] h5 Qr Qx) ∧ ((¬ (lg_cmp (h5.2.1 66 0 0) r4.toInt64) = 0) → Qr (some (vI 0)) h5))) ∧ ((¬ r6 = r2) → Qr (some (vI 0)) h5)) Qx) Qx) Qx) : AW (oa_X nS sc) (d + 1) (rb + 1) mL_law 1154 [(0, vR 2000 0), (1, vR 11 0), (2, vR 12 0), (3, vR 66 0), (4, vI x4)] [] h Qr Qx := by
  refine aw_aload_n (j := 1) (i := 1) dL_law_1154 rfl rfl rfl ?_
  refine aw_aload_n (j := 0) (i := 0) dL_law_1155 rfl rfl rfl ?_
  refine aw_iload (j := 4) (i := 4) dL_law_1156 rfl rfl ?_
  refine aw_iconst (v := 1) dL_law_1158 rfl (by decide) ?_
  refine aw_iadd dL_law_1159 rfl ?_
  refine aw_sldX dL_law_1160 rfl k.1 ?_
  replace k := k.2
  refine aw_aload_n (j := 3) (i := 3) dL_law_1161 rfl rfl rfl ?_
  refine aw_callSH (M' := mL_nextArrival) (S := []) (as := [vR 11 0, vI (sc (x4 + 1).toNatClampNeg), vR 66 0]) (k := 1) dL_law_1162 rfl gh_1161 gh_1162 mb_L_nextArrival rfl (by omega) (Nat.le_of_ble_eq_true rfl) rfl (CLH.imp k (fun _ h1 k => ?_) (fun _ _ k => k))
  obtain ⟨r2, rfl, k⟩ := oI_of k
  show AW (oa_X nS sc) (d + 1) rb mL_law 1165 _ [vI r2] h1 Qr Qx
  refine aw_istore (i := 5) (L2 := [(5, vI r2), (0, vR 2000 0), (1, vR 11 0), (2, vR 12 0), (3, vR 66 0), (4, vI x4)]) dL_law_1165 rfl (by decide) rfl ?_
  refine aw_aload_n (j := 3) (i := 2) dL_law_1167 rfl rfl rfl ?_
  refine aw_aload_n (j := 1) (i := 0) dL_law_1168 rfl rfl rfl ?_
  refine aw_iload (j := 5) (i := 4) dL_law_1169 rfl rfl ?_
  refine aw_iconst (v := 1) dL_law_1171 rfl (by decide) ?_
  refine aw_iadd dL_law_1172 rfl ?_
  refine aw_sldX dL_law_1173 rfl k.1 ?_
  replace k := k.2
  refine aw_callV (M' := mX12_nextArrival) (S := []) (as := [vI (sc (x4 + 1).toNatClampNeg)]) (k := 0) dL_law_1174 rfl (by decide) rfl rfl gh_1834 gh_1835 gh_1836 mb_X12_nextArrival rfl (Nat.zero_le _) (Nat.le_of_ble_eq_true rfl) rfl (CL.imp k (fun _ h3 k => ?_) (fun _ _ k => k))
  obtain ⟨r4, rfl, k⟩ := oI_of k
  show AW (oa_X nS sc) (d + 1) _ mL_law 1177 _ [vI r4] h3 Qr Qx
  refine aw_istore (i := 6) (L2 := [(6, vI r4), (5, vI r2), (0, vR 2000 0), (1, vR 11 0), (2, vR 12 0), (3, vR 66 0), (4, vI x4)]) dL_law_1177 rfl (by decide) rfl ?_
  refine aw_aload_n (j := 4) (i := 2) dL_law_1179 rfl rfl rfl ?_
  refine aw_callV (M' := mX12_thrown) (S := []) (as := []) (k := 0) dL_law_1180 rfl (by decide) rfl rfl gh_1560 gh_1561 gh_1562 mb_X12_thrown rfl (Nat.zero_le _) (Nat.le_of_ble_eq_true rfl) rfl (CL.imp k (fun _ h5 k => ?_) (fun _ _ k => k))
  obtain ⟨r6, rfl, k⟩ := oI_of k
  show AW (oa_X nS sc) (d + 1) _ mL_law 1183 _ [vI r6] h5 Qr Qx
  refine aw_iload (j := 1) (i := 5) dL_law_1183 rfl rfl ?_
  refine aw_icmp_eq 1190 dL_law_1185 rfl rfl (fun c => ?_) (fun c => ?_)
  · replace k := k.1 c
    refine aw_iload (j := 1) (i := 5) dL_law_1190 rfl rfl ?_
    refine aw_if_ne 1207 dL_law_1192 rfl rfl (fun c => ?_) (fun c => ?_)
    · replace k := k.1 c
      refine aw_goto 3140 dL_law_1207 rfl ?_
      exact AW.mono (Nat.le_refl _) (by omega) (aw_sub [2, 3, 4, 5, 6] rfl k)
    · replace k := k.2 c
      refine aw_aload_n (j := 5) (i := 3) dL_law_1195 rfl rfl rfl ?_
      refine aw_iconst (v := 0) dL_law_1196 rfl (by decide) ?_
      refine aw_lald dL_law_1197 rfl (by decide) rfl (by unfold vp_in; decide) ?_
      refine aw_iload (j := 0) (i := 6) dL_law_1198 rfl rfl ?_
      refine aw_i2l dL_law_1200 rfl ?_
      refine aw_lcmp dL_law_1201 rfl ?_
      refine aw_if_eq 1207 dL_law_1202 rfl rfl (fun c => ?_) (fun c => ?_)
      · replace k := k.1 c
        refine aw_goto 3140 dL_law_1207 rfl ?_
        exact AW.mono (Nat.le_refl _) (by omega) (aw_sub [2, 3, 4, 5, 6] rfl k)
      · replace k := k.2 c
        refine aw_iconst (v := 0) dL_law_1205 rfl (by decide) ?_
        exact aw_zret dL_law_1206 rfl (by decide) k
  · replace k := k.2 c
    refine aw_iconst (v := 0) dL_law_1188 rfl (by decide) ?_
    exact aw_zret dL_law_1189 rfl (by decide) k
set_option maxHeartbeats 4000000 in
set_option maxRecDepth 100000 in
theorem vc_L_law_1210 {nS : Nat} {sc : Nat → Int32} {d rb : Nat} {h : Hp} {Qr : Option AV → Hp → Prop} {Qx : String → Hp → Prop} {x4 : Int32} (k : (vp_in (x4 + 1) nS) ∧ CLH 1 d mL_buildable [vR 11 0, vI (sc (x4 + 1).toNatClampNeg), vR 66 0] h (oI fun r2 h1 => (vp_in (x4 + 1) nS) ∧ CL 0 d mX12_buildable [vR 12 0, vI (sc (x4 + 1).toNatClampNeg)] h1 (oI fun r4 h3 => CL 0 d mX12_thrown [vR 12 0] h3 (oI fun r6 h5 => ((r6 = r2) → ((¬ r2 = 0) → AW (oa_X nS sc) (d + 1) rb mL_law 3140 [(0, vR 2000 0), (1, vR 11 0), (2, vR 12 0), (3, vR 66 0), (4, vI x4)] [] h5 Qr Qx) ∧ ((r2 = 0) → (((lg_cmp (h5.2.1 66 0 0) r4.toInt64) = 0) → AW (oa_X nS sc) (d + 1) rb mL_law 3140 [(0, vR 2000 0), (1, vR 11 0), (2, vR 12 0), (3, vR 66 0), (4, vI x4)] [] h5 Qr Qx) ∧ ((¬ (lg_cmp (h5.2.1 66 0 0) r4.toInt64) = 0) → Qr (some (vI 0)) h5))) ∧ ((¬ r6 = r2) → Qr (some (vI 0)) h5)) Qx) Qx) Qx) : AW (oa_X nS sc) (d + 1) (rb + 1) mL_law 1210 [(0, vR 2000 0), (1, vR 11 0), (2, vR 12 0), (3, vR 66 0), (4, vI x4)] [] h Qr Qx := by
  refine aw_aload_n (j := 1) (i := 1) dL_law_1210 rfl rfl rfl ?_
  refine aw_aload_n (j := 0) (i := 0) dL_law_1211 rfl rfl rfl ?_
  refine aw_iload (j := 4) (i := 4) dL_law_1212 rfl rfl ?_
  refine aw_iconst (v := 1) dL_law_1214 rfl (by decide) ?_
  refine aw_iadd dL_law_1215 rfl ?_
  refine aw_sldX dL_law_1216 rfl k.1 ?_
  replace k := k.2
  refine aw_aload_n (j := 3) (i := 3) dL_law_1217 rfl rfl rfl ?_
  refine aw_callSH (M' := mL_buildable) (S := []) (as := [vR 11 0, vI (sc (x4 + 1).toNatClampNeg), vR 66 0]) (k := 1) dL_law_1218 rfl gh_1172 gh_1173 mb_L_buildable rfl (by omega) (Nat.le_of_ble_eq_true rfl) rfl (CLH.imp k (fun _ h1 k => ?_) (fun _ _ k => k))
  obtain ⟨r2, rfl, k⟩ := oI_of k
  show AW (oa_X nS sc) (d + 1) rb mL_law 1221 _ [vI r2] h1 Qr Qx
  refine aw_istore (i := 5) (L2 := [(5, vI r2), (0, vR 2000 0), (1, vR 11 0), (2, vR 12 0), (3, vR 66 0), (4, vI x4)]) dL_law_1221 rfl (by decide) rfl ?_
  refine aw_aload_n (j := 3) (i := 2) dL_law_1223 rfl rfl rfl ?_
  refine aw_aload_n (j := 1) (i := 0) dL_law_1224 rfl rfl rfl ?_
  refine aw_iload (j := 5) (i := 4) dL_law_1225 rfl rfl ?_
  refine aw_iconst (v := 1) dL_law_1227 rfl (by decide) ?_
  refine aw_iadd dL_law_1228 rfl ?_
  refine aw_sldX dL_law_1229 rfl k.1 ?_
  replace k := k.2
  refine aw_callV (M' := mX12_buildable) (S := []) (as := [vI (sc (x4 + 1).toNatClampNeg)]) (k := 0) dL_law_1230 rfl (by decide) rfl rfl gh_1838 gh_1839 gh_1840 mb_X12_buildable rfl (Nat.zero_le _) (Nat.le_of_ble_eq_true rfl) rfl (CL.imp k (fun _ h3 k => ?_) (fun _ _ k => k))
  obtain ⟨r4, rfl, k⟩ := oI_of k
  show AW (oa_X nS sc) (d + 1) _ mL_law 1233 _ [vI r4] h3 Qr Qx
  refine aw_istore (i := 6) (L2 := [(6, vI r4), (5, vI r2), (0, vR 2000 0), (1, vR 11 0), (2, vR 12 0), (3, vR 66 0), (4, vI x4)]) dL_law_1233 rfl (by decide) rfl ?_
  refine aw_aload_n (j := 4) (i := 2) dL_law_1235 rfl rfl rfl ?_
  refine aw_callV (M' := mX12_thrown) (S := []) (as := []) (k := 0) dL_law_1236 rfl (by decide) rfl rfl gh_1560 gh_1561 gh_1562 mb_X12_thrown rfl (Nat.zero_le _) (Nat.le_of_ble_eq_true rfl) rfl (CL.imp k (fun _ h5 k => ?_) (fun _ _ k => k))
  obtain ⟨r6, rfl, k⟩ := oI_of k
  show AW (oa_X nS sc) (d + 1) _ mL_law 1239 _ [vI r6] h5 Qr Qx
  refine aw_iload (j := 1) (i := 5) dL_law_1239 rfl rfl ?_
  refine aw_icmp_eq 1246 dL_law_1241 rfl rfl (fun c => ?_) (fun c => ?_)
  · replace k := k.1 c
    refine aw_iload (j := 1) (i := 5) dL_law_1246 rfl rfl ?_
    refine aw_if_ne 1263 dL_law_1248 rfl rfl (fun c => ?_) (fun c => ?_)
    · replace k := k.1 c
      refine aw_goto 3140 dL_law_1263 rfl ?_
      exact AW.mono (Nat.le_refl _) (by omega) (aw_sub [2, 3, 4, 5, 6] rfl k)
    · replace k := k.2 c
      refine aw_aload_n (j := 5) (i := 3) dL_law_1251 rfl rfl rfl ?_
      refine aw_iconst (v := 0) dL_law_1252 rfl (by decide) ?_
      refine aw_lald dL_law_1253 rfl (by decide) rfl (by unfold vp_in; decide) ?_
      refine aw_iload (j := 0) (i := 6) dL_law_1254 rfl rfl ?_
      refine aw_i2l dL_law_1256 rfl ?_
      refine aw_lcmp dL_law_1257 rfl ?_
      refine aw_if_eq 1263 dL_law_1258 rfl rfl (fun c => ?_) (fun c => ?_)
      · replace k := k.1 c
        refine aw_goto 3140 dL_law_1263 rfl ?_
        exact AW.mono (Nat.le_refl _) (by omega) (aw_sub [2, 3, 4, 5, 6] rfl k)
      · replace k := k.2 c
        refine aw_iconst (v := 0) dL_law_1261 rfl (by decide) ?_
        exact aw_zret dL_law_1262 rfl (by decide) k
  · replace k := k.2 c
    refine aw_iconst (v := 0) dL_law_1244 rfl (by decide) ?_
    exact aw_zret dL_law_1245 rfl (by decide) k
set_option maxHeartbeats 4000000 in
set_option maxRecDepth 100000 in
theorem vc_L_law_1266 {nS : Nat} {sc : Nat → Int32} {d rb : Nat} {h : Hp} {Qr : Option AV → Hp → Prop} {Qx : String → Hp → Prop} {x4 : Int32} (k : (vp_in (x4 + 1) nS) ∧ CLH 1 d mL_bottleneck [vR 11 0, vI (sc (x4 + 1).toNatClampNeg), vR 66 0] h (oI fun r2 h1 => (vp_in (x4 + 1) nS) ∧ CL 0 d mX12_bottleneck [vR 12 0, vI (sc (x4 + 1).toNatClampNeg)] h1 (oI fun r4 h3 => CL 0 d mX12_thrown [vR 12 0] h3 (oI fun r6 h5 => ((r6 = r2) → ((¬ r2 = 0) → AW (oa_X nS sc) (d + 1) rb mL_law 3140 [(0, vR 2000 0), (1, vR 11 0), (2, vR 12 0), (3, vR 66 0), (4, vI x4)] [] h5 Qr Qx) ∧ ((r2 = 0) → (((lg_cmp (h5.2.1 66 0 0) r4.toInt64) = 0) → AW (oa_X nS sc) (d + 1) rb mL_law 3140 [(0, vR 2000 0), (1, vR 11 0), (2, vR 12 0), (3, vR 66 0), (4, vI x4)] [] h5 Qr Qx) ∧ ((¬ (lg_cmp (h5.2.1 66 0 0) r4.toInt64) = 0) → Qr (some (vI 0)) h5))) ∧ ((¬ r6 = r2) → Qr (some (vI 0)) h5)) Qx) Qx) Qx) : AW (oa_X nS sc) (d + 1) (rb + 1) mL_law 1266 [(0, vR 2000 0), (1, vR 11 0), (2, vR 12 0), (3, vR 66 0), (4, vI x4)] [] h Qr Qx := by
  refine aw_aload_n (j := 1) (i := 1) dL_law_1266 rfl rfl rfl ?_
  refine aw_aload_n (j := 0) (i := 0) dL_law_1267 rfl rfl rfl ?_
  refine aw_iload (j := 4) (i := 4) dL_law_1268 rfl rfl ?_
  refine aw_iconst (v := 1) dL_law_1270 rfl (by decide) ?_
  refine aw_iadd dL_law_1271 rfl ?_
  refine aw_sldX dL_law_1272 rfl k.1 ?_
  replace k := k.2
  refine aw_aload_n (j := 3) (i := 3) dL_law_1273 rfl rfl rfl ?_
  refine aw_callSH (M' := mL_bottleneck) (S := []) (as := [vR 11 0, vI (sc (x4 + 1).toNatClampNeg), vR 66 0]) (k := 1) dL_law_1274 rfl gh_1181 gh_1182 mb_L_bottleneck rfl (by omega) (Nat.le_of_ble_eq_true rfl) rfl (CLH.imp k (fun _ h1 k => ?_) (fun _ _ k => k))
  obtain ⟨r2, rfl, k⟩ := oI_of k
  show AW (oa_X nS sc) (d + 1) rb mL_law 1277 _ [vI r2] h1 Qr Qx
  refine aw_istore (i := 5) (L2 := [(5, vI r2), (0, vR 2000 0), (1, vR 11 0), (2, vR 12 0), (3, vR 66 0), (4, vI x4)]) dL_law_1277 rfl (by decide) rfl ?_
  refine aw_aload_n (j := 3) (i := 2) dL_law_1279 rfl rfl rfl ?_
  refine aw_aload_n (j := 1) (i := 0) dL_law_1280 rfl rfl rfl ?_
  refine aw_iload (j := 5) (i := 4) dL_law_1281 rfl rfl ?_
  refine aw_iconst (v := 1) dL_law_1283 rfl (by decide) ?_
  refine aw_iadd dL_law_1284 rfl ?_
  refine aw_sldX dL_law_1285 rfl k.1 ?_
  replace k := k.2
  refine aw_callV (M' := mX12_bottleneck) (S := []) (as := [vI (sc (x4 + 1).toNatClampNeg)]) (k := 0) dL_law_1286 rfl (by decide) rfl rfl gh_1854 gh_1855 gh_1856 mb_X12_bottleneck rfl (Nat.zero_le _) (Nat.le_of_ble_eq_true rfl) rfl (CL.imp k (fun _ h3 k => ?_) (fun _ _ k => k))
  obtain ⟨r4, rfl, k⟩ := oI_of k
  show AW (oa_X nS sc) (d + 1) _ mL_law 1289 _ [vI r4] h3 Qr Qx
  refine aw_istore (i := 6) (L2 := [(6, vI r4), (5, vI r2), (0, vR 2000 0), (1, vR 11 0), (2, vR 12 0), (3, vR 66 0), (4, vI x4)]) dL_law_1289 rfl (by decide) rfl ?_
  refine aw_aload_n (j := 4) (i := 2) dL_law_1291 rfl rfl rfl ?_
  refine aw_callV (M' := mX12_thrown) (S := []) (as := []) (k := 0) dL_law_1292 rfl (by decide) rfl rfl gh_1560 gh_1561 gh_1562 mb_X12_thrown rfl (Nat.zero_le _) (Nat.le_of_ble_eq_true rfl) rfl (CL.imp k (fun _ h5 k => ?_) (fun _ _ k => k))
  obtain ⟨r6, rfl, k⟩ := oI_of k
  show AW (oa_X nS sc) (d + 1) _ mL_law 1295 _ [vI r6] h5 Qr Qx
  refine aw_iload (j := 1) (i := 5) dL_law_1295 rfl rfl ?_
  refine aw_icmp_eq 1302 dL_law_1297 rfl rfl (fun c => ?_) (fun c => ?_)
  · replace k := k.1 c
    refine aw_iload (j := 1) (i := 5) dL_law_1302 rfl rfl ?_
    refine aw_if_ne 1319 dL_law_1304 rfl rfl (fun c => ?_) (fun c => ?_)
    · replace k := k.1 c
      refine aw_goto 3140 dL_law_1319 rfl ?_
      exact AW.mono (Nat.le_refl _) (by omega) (aw_sub [2, 3, 4, 5, 6] rfl k)
    · replace k := k.2 c
      refine aw_aload_n (j := 5) (i := 3) dL_law_1307 rfl rfl rfl ?_
      refine aw_iconst (v := 0) dL_law_1308 rfl (by decide) ?_
      refine aw_lald dL_law_1309 rfl (by decide) rfl (by unfold vp_in; decide) ?_
      refine aw_iload (j := 0) (i := 6) dL_law_1310 rfl rfl ?_
      refine aw_i2l dL_law_1312 rfl ?_
      refine aw_lcmp dL_law_1313 rfl ?_
      refine aw_if_eq 1319 dL_law_1314 rfl rfl (fun c => ?_) (fun c => ?_)
      · replace k := k.1 c
        refine aw_goto 3140 dL_law_1319 rfl ?_
        exact AW.mono (Nat.le_refl _) (by omega) (aw_sub [2, 3, 4, 5, 6] rfl k)
      · replace k := k.2 c
        refine aw_iconst (v := 0) dL_law_1317 rfl (by decide) ?_
        exact aw_zret dL_law_1318 rfl (by decide) k
  · replace k := k.2 c
    refine aw_iconst (v := 0) dL_law_1300 rfl (by decide) ?_
    exact aw_zret dL_law_1301 rfl (by decide) k
set_option maxHeartbeats 4000000 in
set_option maxRecDepth 100000 in
theorem vc_L_law_1322 {nS : Nat} {sc : Nat → Int32} {d rb : Nat} {h : Hp} {Qr : Option AV → Hp → Prop} {Qx : String → Hp → Prop} {x4 : Int32} (k : (vp_in (x4 + 1) nS) ∧ (vp_in (x4 + 2) nS) ∧ CLH 1 d mL_buildableTogether [vR 11 0, vI (sc (x4 + 1).toNatClampNeg), vI (sc (x4 + 2).toNatClampNeg), vR 66 0] h (oI fun r2 h1 => (vp_in (x4 + 1) nS) ∧ (vp_in (x4 + 2) nS) ∧ CL 0 d mX12_buildableTogether [vR 12 0, vI (sc (x4 + 1).toNatClampNeg), vI (sc (x4 + 2).toNatClampNeg)] h1 (oI fun r4 h3 => CL 0 d mX12_thrown [vR 12 0] h3 (oI fun r6 h5 => ((r6 = r2) → ((¬ r2 = 0) → AW (oa_X nS sc) (d + 1) rb mL_law 3140 [(0, vR 2000 0), (1, vR 11 0), (2, vR 12 0), (3, vR 66 0), (4, vI x4)] [] h5 Qr Qx) ∧ ((r2 = 0) → (((lg_cmp (h5.2.1 66 0 0) r4.toInt64) = 0) → AW (oa_X nS sc) (d + 1) rb mL_law 3140 [(0, vR 2000 0), (1, vR 11 0), (2, vR 12 0), (3, vR 66 0), (4, vI x4)] [] h5 Qr Qx) ∧ ((¬ (lg_cmp (h5.2.1 66 0 0) r4.toInt64) = 0) → Qr (some (vI 0)) h5))) ∧ ((¬ r6 = r2) → Qr (some (vI 0)) h5)) Qx) Qx) Qx) : AW (oa_X nS sc) (d + 1) (rb + 1) mL_law 1322 [(0, vR 2000 0), (1, vR 11 0), (2, vR 12 0), (3, vR 66 0), (4, vI x4)] [] h Qr Qx := by
  refine aw_aload_n (j := 1) (i := 1) dL_law_1322 rfl rfl rfl ?_
  refine aw_aload_n (j := 0) (i := 0) dL_law_1323 rfl rfl rfl ?_
  refine aw_iload (j := 4) (i := 4) dL_law_1324 rfl rfl ?_
  refine aw_iconst (v := 1) dL_law_1326 rfl (by decide) ?_
  refine aw_iadd dL_law_1327 rfl ?_
  refine aw_sldX dL_law_1328 rfl k.1 ?_
  replace k := k.2
  refine aw_aload_n (j := 0) (i := 0) dL_law_1329 rfl rfl rfl ?_
  refine aw_iload (j := 4) (i := 4) dL_law_1330 rfl rfl ?_
  refine aw_iconst (v := 2) dL_law_1332 rfl (by decide) ?_
  refine aw_iadd dL_law_1333 rfl ?_
  refine aw_sldX dL_law_1334 rfl k.1 ?_
  replace k := k.2
  refine aw_aload_n (j := 3) (i := 3) dL_law_1335 rfl rfl rfl ?_
  refine aw_callSH (M' := mL_buildableTogether) (S := []) (as := [vR 11 0, vI (sc (x4 + 1).toNatClampNeg), vI (sc (x4 + 2).toNatClampNeg), vR 66 0]) (k := 1) dL_law_1336 rfl gh_1189 gh_1190 mb_L_buildableTogether rfl (by omega) (Nat.le_of_ble_eq_true rfl) rfl (CLH.imp k (fun _ h1 k => ?_) (fun _ _ k => k))
  obtain ⟨r2, rfl, k⟩ := oI_of k
  show AW (oa_X nS sc) (d + 1) rb mL_law 1339 _ [vI r2] h1 Qr Qx
  refine aw_istore (i := 5) (L2 := [(5, vI r2), (0, vR 2000 0), (1, vR 11 0), (2, vR 12 0), (3, vR 66 0), (4, vI x4)]) dL_law_1339 rfl (by decide) rfl ?_
  refine aw_aload_n (j := 3) (i := 2) dL_law_1341 rfl rfl rfl ?_
  refine aw_aload_n (j := 1) (i := 0) dL_law_1342 rfl rfl rfl ?_
  refine aw_iload (j := 5) (i := 4) dL_law_1343 rfl rfl ?_
  refine aw_iconst (v := 1) dL_law_1345 rfl (by decide) ?_
  refine aw_iadd dL_law_1346 rfl ?_
  refine aw_sldX dL_law_1347 rfl k.1 ?_
  replace k := k.2
  refine aw_aload_n (j := 1) (i := 0) dL_law_1348 rfl rfl rfl ?_
  refine aw_iload (j := 5) (i := 4) dL_law_1349 rfl rfl ?_
  refine aw_iconst (v := 2) dL_law_1351 rfl (by decide) ?_
  refine aw_iadd dL_law_1352 rfl ?_
  refine aw_sldX dL_law_1353 rfl k.1 ?_
  replace k := k.2
  refine aw_callV (M' := mX12_buildableTogether) (S := []) (as := [vI (sc (x4 + 1).toNatClampNeg), vI (sc (x4 + 2).toNatClampNeg)]) (k := 0) dL_law_1354 rfl (by decide) rfl rfl gh_1858 gh_1859 gh_1860 mb_X12_buildableTogether rfl (Nat.zero_le _) (Nat.le_of_ble_eq_true rfl) rfl (CL.imp k (fun _ h3 k => ?_) (fun _ _ k => k))
  obtain ⟨r4, rfl, k⟩ := oI_of k
  show AW (oa_X nS sc) (d + 1) _ mL_law 1357 _ [vI r4] h3 Qr Qx
  refine aw_istore (i := 6) (L2 := [(6, vI r4), (5, vI r2), (0, vR 2000 0), (1, vR 11 0), (2, vR 12 0), (3, vR 66 0), (4, vI x4)]) dL_law_1357 rfl (by decide) rfl ?_
  refine aw_aload_n (j := 4) (i := 2) dL_law_1359 rfl rfl rfl ?_
  refine aw_callV (M' := mX12_thrown) (S := []) (as := []) (k := 0) dL_law_1360 rfl (by decide) rfl rfl gh_1560 gh_1561 gh_1562 mb_X12_thrown rfl (Nat.zero_le _) (Nat.le_of_ble_eq_true rfl) rfl (CL.imp k (fun _ h5 k => ?_) (fun _ _ k => k))
  obtain ⟨r6, rfl, k⟩ := oI_of k
  show AW (oa_X nS sc) (d + 1) _ mL_law 1363 _ [vI r6] h5 Qr Qx
  refine aw_iload (j := 1) (i := 5) dL_law_1363 rfl rfl ?_
  refine aw_icmp_eq 1370 dL_law_1365 rfl rfl (fun c => ?_) (fun c => ?_)
  · replace k := k.1 c
    refine aw_iload (j := 1) (i := 5) dL_law_1370 rfl rfl ?_
    refine aw_if_ne 1387 dL_law_1372 rfl rfl (fun c => ?_) (fun c => ?_)
    · replace k := k.1 c
      refine aw_goto 3140 dL_law_1387 rfl ?_
      exact AW.mono (Nat.le_refl _) (by omega) (aw_sub [2, 3, 4, 5, 6] rfl k)
    · replace k := k.2 c
      refine aw_aload_n (j := 5) (i := 3) dL_law_1375 rfl rfl rfl ?_
      refine aw_iconst (v := 0) dL_law_1376 rfl (by decide) ?_
      refine aw_lald dL_law_1377 rfl (by decide) rfl (by unfold vp_in; decide) ?_
      refine aw_iload (j := 0) (i := 6) dL_law_1378 rfl rfl ?_
      refine aw_i2l dL_law_1380 rfl ?_
      refine aw_lcmp dL_law_1381 rfl ?_
      refine aw_if_eq 1387 dL_law_1382 rfl rfl (fun c => ?_) (fun c => ?_)
      · replace k := k.1 c
        refine aw_goto 3140 dL_law_1387 rfl ?_
        exact AW.mono (Nat.le_refl _) (by omega) (aw_sub [2, 3, 4, 5, 6] rfl k)
      · replace k := k.2 c
        refine aw_iconst (v := 0) dL_law_1385 rfl (by decide) ?_
        exact aw_zret dL_law_1386 rfl (by decide) k
  · replace k := k.2 c
    refine aw_iconst (v := 0) dL_law_1368 rfl (by decide) ?_
    exact aw_zret dL_law_1369 rfl (by decide) k
set_option maxHeartbeats 4000000 in
set_option maxRecDepth 100000 in
theorem vc_L_law_1390 {nS : Nat} {sc : Nat → Int32} {d rb : Nat} {h : Hp} {Qr : Option AV → Hp → Prop} {Qx : String → Hp → Prop} {x4 : Int32} (k : (vp_in (x4 + 1) nS) ∧ CLH 1 d mL_stateOf [vR 11 0, vI (sc (x4 + 1).toNatClampNeg), vR 66 0] h (oI fun r2 h1 => (vp_in (x4 + 1) nS) ∧ CL 0 d mX12_stateOf [vR 12 0, vI (sc (x4 + 1).toNatClampNeg)] h1 (oI fun r4 h3 => CL 0 d mX12_thrown [vR 12 0] h3 (oI fun r6 h5 => ((r6 = r2) → ((¬ r2 = 0) → AW (oa_X nS sc) (d + 1) rb mL_law 3140 [(0, vR 2000 0), (1, vR 11 0), (2, vR 12 0), (3, vR 66 0), (4, vI x4)] [] h5 Qr Qx) ∧ ((r2 = 0) → (((lg_cmp (h5.2.1 66 0 0) r4.toInt64) = 0) → AW (oa_X nS sc) (d + 1) rb mL_law 3140 [(0, vR 2000 0), (1, vR 11 0), (2, vR 12 0), (3, vR 66 0), (4, vI x4)] [] h5 Qr Qx) ∧ ((¬ (lg_cmp (h5.2.1 66 0 0) r4.toInt64) = 0) → Qr (some (vI 0)) h5))) ∧ ((¬ r6 = r2) → Qr (some (vI 0)) h5)) Qx) Qx) Qx) : AW (oa_X nS sc) (d + 1) (rb + 1) mL_law 1390 [(0, vR 2000 0), (1, vR 11 0), (2, vR 12 0), (3, vR 66 0), (4, vI x4)] [] h Qr Qx := by
  refine aw_aload_n (j := 1) (i := 1) dL_law_1390 rfl rfl rfl ?_
  refine aw_aload_n (j := 0) (i := 0) dL_law_1391 rfl rfl rfl ?_
  refine aw_iload (j := 4) (i := 4) dL_law_1392 rfl rfl ?_
  refine aw_iconst (v := 1) dL_law_1394 rfl (by decide) ?_
  refine aw_iadd dL_law_1395 rfl ?_
  refine aw_sldX dL_law_1396 rfl k.1 ?_
  replace k := k.2
  refine aw_aload_n (j := 3) (i := 3) dL_law_1397 rfl rfl rfl ?_
  refine aw_callSH (M' := mL_stateOf) (S := []) (as := [vR 11 0, vI (sc (x4 + 1).toNatClampNeg), vR 66 0]) (k := 1) dL_law_1398 rfl gh_1217 gh_1218 mb_L_stateOf rfl (by omega) (Nat.le_of_ble_eq_true rfl) rfl (CLH.imp k (fun _ h1 k => ?_) (fun _ _ k => k))
  obtain ⟨r2, rfl, k⟩ := oI_of k
  show AW (oa_X nS sc) (d + 1) rb mL_law 1401 _ [vI r2] h1 Qr Qx
  refine aw_istore (i := 5) (L2 := [(5, vI r2), (0, vR 2000 0), (1, vR 11 0), (2, vR 12 0), (3, vR 66 0), (4, vI x4)]) dL_law_1401 rfl (by decide) rfl ?_
  refine aw_aload_n (j := 3) (i := 2) dL_law_1403 rfl rfl rfl ?_
  refine aw_aload_n (j := 1) (i := 0) dL_law_1404 rfl rfl rfl ?_
  refine aw_iload (j := 5) (i := 4) dL_law_1405 rfl rfl ?_
  refine aw_iconst (v := 1) dL_law_1407 rfl (by decide) ?_
  refine aw_iadd dL_law_1408 rfl ?_
  refine aw_sldX dL_law_1409 rfl k.1 ?_
  replace k := k.2
  refine aw_callV (M' := mX12_stateOf) (S := []) (as := [vI (sc (x4 + 1).toNatClampNeg)]) (k := 0) dL_law_1410 rfl (by decide) rfl rfl gh_1863 gh_1864 gh_1865 mb_X12_stateOf rfl (Nat.zero_le _) (Nat.le_of_ble_eq_true rfl) rfl (CL.imp k (fun _ h3 k => ?_) (fun _ _ k => k))
  obtain ⟨r4, rfl, k⟩ := oI_of k
  show AW (oa_X nS sc) (d + 1) _ mL_law 1413 _ [vI r4] h3 Qr Qx
  refine aw_istore (i := 6) (L2 := [(6, vI r4), (5, vI r2), (0, vR 2000 0), (1, vR 11 0), (2, vR 12 0), (3, vR 66 0), (4, vI x4)]) dL_law_1413 rfl (by decide) rfl ?_
  refine aw_aload_n (j := 4) (i := 2) dL_law_1415 rfl rfl rfl ?_
  refine aw_callV (M' := mX12_thrown) (S := []) (as := []) (k := 0) dL_law_1416 rfl (by decide) rfl rfl gh_1560 gh_1561 gh_1562 mb_X12_thrown rfl (Nat.zero_le _) (Nat.le_of_ble_eq_true rfl) rfl (CL.imp k (fun _ h5 k => ?_) (fun _ _ k => k))
  obtain ⟨r6, rfl, k⟩ := oI_of k
  show AW (oa_X nS sc) (d + 1) _ mL_law 1419 _ [vI r6] h5 Qr Qx
  refine aw_iload (j := 1) (i := 5) dL_law_1419 rfl rfl ?_
  refine aw_icmp_eq 1426 dL_law_1421 rfl rfl (fun c => ?_) (fun c => ?_)
  · replace k := k.1 c
    refine aw_iload (j := 1) (i := 5) dL_law_1426 rfl rfl ?_
    refine aw_if_ne 1443 dL_law_1428 rfl rfl (fun c => ?_) (fun c => ?_)
    · replace k := k.1 c
      refine aw_goto 3140 dL_law_1443 rfl ?_
      exact AW.mono (Nat.le_refl _) (by omega) (aw_sub [2, 3, 4, 5, 6] rfl k)
    · replace k := k.2 c
      refine aw_aload_n (j := 5) (i := 3) dL_law_1431 rfl rfl rfl ?_
      refine aw_iconst (v := 0) dL_law_1432 rfl (by decide) ?_
      refine aw_lald dL_law_1433 rfl (by decide) rfl (by unfold vp_in; decide) ?_
      refine aw_iload (j := 0) (i := 6) dL_law_1434 rfl rfl ?_
      refine aw_i2l dL_law_1436 rfl ?_
      refine aw_lcmp dL_law_1437 rfl ?_
      refine aw_if_eq 1443 dL_law_1438 rfl rfl (fun c => ?_) (fun c => ?_)
      · replace k := k.1 c
        refine aw_goto 3140 dL_law_1443 rfl ?_
        exact AW.mono (Nat.le_refl _) (by omega) (aw_sub [2, 3, 4, 5, 6] rfl k)
      · replace k := k.2 c
        refine aw_iconst (v := 0) dL_law_1441 rfl (by decide) ?_
        exact aw_zret dL_law_1442 rfl (by decide) k
  · replace k := k.2 c
    refine aw_iconst (v := 0) dL_law_1424 rfl (by decide) ?_
    exact aw_zret dL_law_1425 rfl (by decide) k
set_option maxHeartbeats 4000000 in
set_option maxRecDepth 100000 in
theorem vc_L_law_1446 {nS : Nat} {sc : Nat → Int32} {d rb : Nat} {h : Hp} {Qr : Option AV → Hp → Prop} {Qx : String → Hp → Prop} {x4 : Int32} (k : (vp_in (x4 + 1) nS) ∧ CLH 1 d mL_openUnits [vR 11 0, vI (sc (x4 + 1).toNatClampNeg), vR 66 0] h (oI fun r2 h1 => (vp_in (x4 + 1) nS) ∧ CL 0 d mX12_openUnits [vR 12 0, vI (sc (x4 + 1).toNatClampNeg)] h1 (oI fun r4 h3 => CL 0 d mX12_thrown [vR 12 0] h3 (oI fun r6 h5 => ((r6 = r2) → ((¬ r2 = 0) → AW (oa_X nS sc) (d + 1) rb mL_law 3140 [(0, vR 2000 0), (1, vR 11 0), (2, vR 12 0), (3, vR 66 0), (4, vI x4)] [] h5 Qr Qx) ∧ ((r2 = 0) → (((lg_cmp (h5.2.1 66 0 0) r4.toInt64) = 0) → AW (oa_X nS sc) (d + 1) rb mL_law 3140 [(0, vR 2000 0), (1, vR 11 0), (2, vR 12 0), (3, vR 66 0), (4, vI x4)] [] h5 Qr Qx) ∧ ((¬ (lg_cmp (h5.2.1 66 0 0) r4.toInt64) = 0) → Qr (some (vI 0)) h5))) ∧ ((¬ r6 = r2) → Qr (some (vI 0)) h5)) Qx) Qx) Qx) : AW (oa_X nS sc) (d + 1) (rb + 1) mL_law 1446 [(0, vR 2000 0), (1, vR 11 0), (2, vR 12 0), (3, vR 66 0), (4, vI x4)] [] h Qr Qx := by
  refine aw_aload_n (j := 1) (i := 1) dL_law_1446 rfl rfl rfl ?_
  refine aw_aload_n (j := 0) (i := 0) dL_law_1447 rfl rfl rfl ?_
  refine aw_iload (j := 4) (i := 4) dL_law_1448 rfl rfl ?_
  refine aw_iconst (v := 1) dL_law_1450 rfl (by decide) ?_
  refine aw_iadd dL_law_1451 rfl ?_
  refine aw_sldX dL_law_1452 rfl k.1 ?_
  replace k := k.2
  refine aw_aload_n (j := 3) (i := 3) dL_law_1453 rfl rfl rfl ?_
  refine aw_callSH (M' := mL_openUnits) (S := []) (as := [vR 11 0, vI (sc (x4 + 1).toNatClampNeg), vR 66 0]) (k := 1) dL_law_1454 rfl gh_1238 gh_1239 mb_L_openUnits rfl (by omega) (Nat.le_of_ble_eq_true rfl) rfl (CLH.imp k (fun _ h1 k => ?_) (fun _ _ k => k))
  obtain ⟨r2, rfl, k⟩ := oI_of k
  show AW (oa_X nS sc) (d + 1) rb mL_law 1457 _ [vI r2] h1 Qr Qx
  refine aw_istore (i := 5) (L2 := [(5, vI r2), (0, vR 2000 0), (1, vR 11 0), (2, vR 12 0), (3, vR 66 0), (4, vI x4)]) dL_law_1457 rfl (by decide) rfl ?_
  refine aw_aload_n (j := 3) (i := 2) dL_law_1459 rfl rfl rfl ?_
  refine aw_aload_n (j := 1) (i := 0) dL_law_1460 rfl rfl rfl ?_
  refine aw_iload (j := 5) (i := 4) dL_law_1461 rfl rfl ?_
  refine aw_iconst (v := 1) dL_law_1463 rfl (by decide) ?_
  refine aw_iadd dL_law_1464 rfl ?_
  refine aw_sldX dL_law_1465 rfl k.1 ?_
  replace k := k.2
  refine aw_callV (M' := mX12_openUnits) (S := []) (as := [vI (sc (x4 + 1).toNatClampNeg)]) (k := 0) dL_law_1466 rfl (by decide) rfl rfl gh_1879 gh_1880 gh_1881 mb_X12_openUnits rfl (Nat.zero_le _) (Nat.le_of_ble_eq_true rfl) rfl (CL.imp k (fun _ h3 k => ?_) (fun _ _ k => k))
  obtain ⟨r4, rfl, k⟩ := oI_of k
  show AW (oa_X nS sc) (d + 1) _ mL_law 1469 _ [vI r4] h3 Qr Qx
  refine aw_istore (i := 6) (L2 := [(6, vI r4), (5, vI r2), (0, vR 2000 0), (1, vR 11 0), (2, vR 12 0), (3, vR 66 0), (4, vI x4)]) dL_law_1469 rfl (by decide) rfl ?_
  refine aw_aload_n (j := 4) (i := 2) dL_law_1471 rfl rfl rfl ?_
  refine aw_callV (M' := mX12_thrown) (S := []) (as := []) (k := 0) dL_law_1472 rfl (by decide) rfl rfl gh_1560 gh_1561 gh_1562 mb_X12_thrown rfl (Nat.zero_le _) (Nat.le_of_ble_eq_true rfl) rfl (CL.imp k (fun _ h5 k => ?_) (fun _ _ k => k))
  obtain ⟨r6, rfl, k⟩ := oI_of k
  show AW (oa_X nS sc) (d + 1) _ mL_law 1475 _ [vI r6] h5 Qr Qx
  refine aw_iload (j := 1) (i := 5) dL_law_1475 rfl rfl ?_
  refine aw_icmp_eq 1482 dL_law_1477 rfl rfl (fun c => ?_) (fun c => ?_)
  · replace k := k.1 c
    refine aw_iload (j := 1) (i := 5) dL_law_1482 rfl rfl ?_
    refine aw_if_ne 1499 dL_law_1484 rfl rfl (fun c => ?_) (fun c => ?_)
    · replace k := k.1 c
      refine aw_goto 3140 dL_law_1499 rfl ?_
      exact AW.mono (Nat.le_refl _) (by omega) (aw_sub [2, 3, 4, 5, 6] rfl k)
    · replace k := k.2 c
      refine aw_aload_n (j := 5) (i := 3) dL_law_1487 rfl rfl rfl ?_
      refine aw_iconst (v := 0) dL_law_1488 rfl (by decide) ?_
      refine aw_lald dL_law_1489 rfl (by decide) rfl (by unfold vp_in; decide) ?_
      refine aw_iload (j := 0) (i := 6) dL_law_1490 rfl rfl ?_
      refine aw_i2l dL_law_1492 rfl ?_
      refine aw_lcmp dL_law_1493 rfl ?_
      refine aw_if_eq 1499 dL_law_1494 rfl rfl (fun c => ?_) (fun c => ?_)
      · replace k := k.1 c
        refine aw_goto 3140 dL_law_1499 rfl ?_
        exact AW.mono (Nat.le_refl _) (by omega) (aw_sub [2, 3, 4, 5, 6] rfl k)
      · replace k := k.2 c
        refine aw_iconst (v := 0) dL_law_1497 rfl (by decide) ?_
        exact aw_zret dL_law_1498 rfl (by decide) k
  · replace k := k.2 c
    refine aw_iconst (v := 0) dL_law_1480 rfl (by decide) ?_
    exact aw_zret dL_law_1481 rfl (by decide) k
set_option maxHeartbeats 4000000 in
set_option maxRecDepth 100000 in
theorem vc_L_law_1502 {nS : Nat} {sc : Nat → Int32} {d rb : Nat} {h : Hp} {Qr : Option AV → Hp → Prop} {Qx : String → Hp → Prop} {x4 : Int32} (k : (vp_in (x4 + 1) nS) ∧ CLH 1 d mL_reservedUnits [vR 11 0, vI (sc (x4 + 1).toNatClampNeg), vR 66 0] h (oI fun r2 h1 => (vp_in (x4 + 1) nS) ∧ CL 0 d mX12_reservedUnits [vR 12 0, vI (sc (x4 + 1).toNatClampNeg)] h1 (oI fun r4 h3 => CL 0 d mX12_thrown [vR 12 0] h3 (oI fun r6 h5 => ((r6 = r2) → ((¬ r2 = 0) → AW (oa_X nS sc) (d + 1) rb mL_law 3140 [(0, vR 2000 0), (1, vR 11 0), (2, vR 12 0), (3, vR 66 0), (4, vI x4)] [] h5 Qr Qx) ∧ ((r2 = 0) → (((lg_cmp (h5.2.1 66 0 0) r4.toInt64) = 0) → AW (oa_X nS sc) (d + 1) rb mL_law 3140 [(0, vR 2000 0), (1, vR 11 0), (2, vR 12 0), (3, vR 66 0), (4, vI x4)] [] h5 Qr Qx) ∧ ((¬ (lg_cmp (h5.2.1 66 0 0) r4.toInt64) = 0) → Qr (some (vI 0)) h5))) ∧ ((¬ r6 = r2) → Qr (some (vI 0)) h5)) Qx) Qx) Qx) : AW (oa_X nS sc) (d + 1) (rb + 1) mL_law 1502 [(0, vR 2000 0), (1, vR 11 0), (2, vR 12 0), (3, vR 66 0), (4, vI x4)] [] h Qr Qx := by
  refine aw_aload_n (j := 1) (i := 1) dL_law_1502 rfl rfl rfl ?_
  refine aw_aload_n (j := 0) (i := 0) dL_law_1503 rfl rfl rfl ?_
  refine aw_iload (j := 4) (i := 4) dL_law_1504 rfl rfl ?_
  refine aw_iconst (v := 1) dL_law_1506 rfl (by decide) ?_
  refine aw_iadd dL_law_1507 rfl ?_
  refine aw_sldX dL_law_1508 rfl k.1 ?_
  replace k := k.2
  refine aw_aload_n (j := 3) (i := 3) dL_law_1509 rfl rfl rfl ?_
  refine aw_callSH (M' := mL_reservedUnits) (S := []) (as := [vR 11 0, vI (sc (x4 + 1).toNatClampNeg), vR 66 0]) (k := 1) dL_law_1510 rfl gh_1245 gh_1246 mb_L_reservedUnits rfl (by omega) (Nat.le_of_ble_eq_true rfl) rfl (CLH.imp k (fun _ h1 k => ?_) (fun _ _ k => k))
  obtain ⟨r2, rfl, k⟩ := oI_of k
  show AW (oa_X nS sc) (d + 1) rb mL_law 1513 _ [vI r2] h1 Qr Qx
  refine aw_istore (i := 5) (L2 := [(5, vI r2), (0, vR 2000 0), (1, vR 11 0), (2, vR 12 0), (3, vR 66 0), (4, vI x4)]) dL_law_1513 rfl (by decide) rfl ?_
  refine aw_aload_n (j := 3) (i := 2) dL_law_1515 rfl rfl rfl ?_
  refine aw_aload_n (j := 1) (i := 0) dL_law_1516 rfl rfl rfl ?_
  refine aw_iload (j := 5) (i := 4) dL_law_1517 rfl rfl ?_
  refine aw_iconst (v := 1) dL_law_1519 rfl (by decide) ?_
  refine aw_iadd dL_law_1520 rfl ?_
  refine aw_sldX dL_law_1521 rfl k.1 ?_
  replace k := k.2
  refine aw_callV (M' := mX12_reservedUnits) (S := []) (as := [vI (sc (x4 + 1).toNatClampNeg)]) (k := 0) dL_law_1522 rfl (by decide) rfl rfl gh_1883 gh_1884 gh_1885 mb_X12_reservedUnits rfl (Nat.zero_le _) (Nat.le_of_ble_eq_true rfl) rfl (CL.imp k (fun _ h3 k => ?_) (fun _ _ k => k))
  obtain ⟨r4, rfl, k⟩ := oI_of k
  show AW (oa_X nS sc) (d + 1) _ mL_law 1525 _ [vI r4] h3 Qr Qx
  refine aw_istore (i := 6) (L2 := [(6, vI r4), (5, vI r2), (0, vR 2000 0), (1, vR 11 0), (2, vR 12 0), (3, vR 66 0), (4, vI x4)]) dL_law_1525 rfl (by decide) rfl ?_
  refine aw_aload_n (j := 4) (i := 2) dL_law_1527 rfl rfl rfl ?_
  refine aw_callV (M' := mX12_thrown) (S := []) (as := []) (k := 0) dL_law_1528 rfl (by decide) rfl rfl gh_1560 gh_1561 gh_1562 mb_X12_thrown rfl (Nat.zero_le _) (Nat.le_of_ble_eq_true rfl) rfl (CL.imp k (fun _ h5 k => ?_) (fun _ _ k => k))
  obtain ⟨r6, rfl, k⟩ := oI_of k
  show AW (oa_X nS sc) (d + 1) _ mL_law 1531 _ [vI r6] h5 Qr Qx
  refine aw_iload (j := 1) (i := 5) dL_law_1531 rfl rfl ?_
  refine aw_icmp_eq 1538 dL_law_1533 rfl rfl (fun c => ?_) (fun c => ?_)
  · replace k := k.1 c
    refine aw_iload (j := 1) (i := 5) dL_law_1538 rfl rfl ?_
    refine aw_if_ne 1555 dL_law_1540 rfl rfl (fun c => ?_) (fun c => ?_)
    · replace k := k.1 c
      refine aw_goto 3140 dL_law_1555 rfl ?_
      exact AW.mono (Nat.le_refl _) (by omega) (aw_sub [2, 3, 4, 5, 6] rfl k)
    · replace k := k.2 c
      refine aw_aload_n (j := 5) (i := 3) dL_law_1543 rfl rfl rfl ?_
      refine aw_iconst (v := 0) dL_law_1544 rfl (by decide) ?_
      refine aw_lald dL_law_1545 rfl (by decide) rfl (by unfold vp_in; decide) ?_
      refine aw_iload (j := 0) (i := 6) dL_law_1546 rfl rfl ?_
      refine aw_i2l dL_law_1548 rfl ?_
      refine aw_lcmp dL_law_1549 rfl ?_
      refine aw_if_eq 1555 dL_law_1550 rfl rfl (fun c => ?_) (fun c => ?_)
      · replace k := k.1 c
        refine aw_goto 3140 dL_law_1555 rfl ?_
        exact AW.mono (Nat.le_refl _) (by omega) (aw_sub [2, 3, 4, 5, 6] rfl k)
      · replace k := k.2 c
        refine aw_iconst (v := 0) dL_law_1553 rfl (by decide) ?_
        exact aw_zret dL_law_1554 rfl (by decide) k
  · replace k := k.2 c
    refine aw_iconst (v := 0) dL_law_1536 rfl (by decide) ?_
    exact aw_zret dL_law_1537 rfl (by decide) k
set_option maxHeartbeats 4000000 in
set_option maxRecDepth 100000 in
theorem vc_L_law_1558 {nS : Nat} {sc : Nat → Int32} {d rb : Nat} {h : Hp} {Qr : Option AV → Hp → Prop} {Qx : String → Hp → Prop} {x4 : Int32} (k : (vp_in (x4 + 1) nS) ∧ CLH 1 d mL_shippedUnits [vR 11 0, vI (sc (x4 + 1).toNatClampNeg), vR 66 0] h (oI fun r2 h1 => (vp_in (x4 + 1) nS) ∧ CL 0 d mX12_shippedUnits [vR 12 0, vI (sc (x4 + 1).toNatClampNeg)] h1 (oI fun r4 h3 => CL 0 d mX12_thrown [vR 12 0] h3 (oI fun r6 h5 => ((r6 = r2) → ((¬ r2 = 0) → AW (oa_X nS sc) (d + 1) rb mL_law 3140 [(0, vR 2000 0), (1, vR 11 0), (2, vR 12 0), (3, vR 66 0), (4, vI x4)] [] h5 Qr Qx) ∧ ((r2 = 0) → (((lg_cmp (h5.2.1 66 0 0) r4.toInt64) = 0) → AW (oa_X nS sc) (d + 1) rb mL_law 3140 [(0, vR 2000 0), (1, vR 11 0), (2, vR 12 0), (3, vR 66 0), (4, vI x4)] [] h5 Qr Qx) ∧ ((¬ (lg_cmp (h5.2.1 66 0 0) r4.toInt64) = 0) → Qr (some (vI 0)) h5))) ∧ ((¬ r6 = r2) → Qr (some (vI 0)) h5)) Qx) Qx) Qx) : AW (oa_X nS sc) (d + 1) (rb + 1) mL_law 1558 [(0, vR 2000 0), (1, vR 11 0), (2, vR 12 0), (3, vR 66 0), (4, vI x4)] [] h Qr Qx := by
  refine aw_aload_n (j := 1) (i := 1) dL_law_1558 rfl rfl rfl ?_
  refine aw_aload_n (j := 0) (i := 0) dL_law_1559 rfl rfl rfl ?_
  refine aw_iload (j := 4) (i := 4) dL_law_1560 rfl rfl ?_
  refine aw_iconst (v := 1) dL_law_1562 rfl (by decide) ?_
  refine aw_iadd dL_law_1563 rfl ?_
  refine aw_sldX dL_law_1564 rfl k.1 ?_
  replace k := k.2
  refine aw_aload_n (j := 3) (i := 3) dL_law_1565 rfl rfl rfl ?_
  refine aw_callSH (M' := mL_shippedUnits) (S := []) (as := [vR 11 0, vI (sc (x4 + 1).toNatClampNeg), vR 66 0]) (k := 1) dL_law_1566 rfl gh_1253 gh_1254 mb_L_shippedUnits rfl (by omega) (Nat.le_of_ble_eq_true rfl) rfl (CLH.imp k (fun _ h1 k => ?_) (fun _ _ k => k))
  obtain ⟨r2, rfl, k⟩ := oI_of k
  show AW (oa_X nS sc) (d + 1) rb mL_law 1569 _ [vI r2] h1 Qr Qx
  refine aw_istore (i := 5) (L2 := [(5, vI r2), (0, vR 2000 0), (1, vR 11 0), (2, vR 12 0), (3, vR 66 0), (4, vI x4)]) dL_law_1569 rfl (by decide) rfl ?_
  refine aw_aload_n (j := 3) (i := 2) dL_law_1571 rfl rfl rfl ?_
  refine aw_aload_n (j := 1) (i := 0) dL_law_1572 rfl rfl rfl ?_
  refine aw_iload (j := 5) (i := 4) dL_law_1573 rfl rfl ?_
  refine aw_iconst (v := 1) dL_law_1575 rfl (by decide) ?_
  refine aw_iadd dL_law_1576 rfl ?_
  refine aw_sldX dL_law_1577 rfl k.1 ?_
  replace k := k.2
  refine aw_callV (M' := mX12_shippedUnits) (S := []) (as := [vI (sc (x4 + 1).toNatClampNeg)]) (k := 0) dL_law_1578 rfl (by decide) rfl rfl gh_1887 gh_1888 gh_1889 mb_X12_shippedUnits rfl (Nat.zero_le _) (Nat.le_of_ble_eq_true rfl) rfl (CL.imp k (fun _ h3 k => ?_) (fun _ _ k => k))
  obtain ⟨r4, rfl, k⟩ := oI_of k
  show AW (oa_X nS sc) (d + 1) _ mL_law 1581 _ [vI r4] h3 Qr Qx
  refine aw_istore (i := 6) (L2 := [(6, vI r4), (5, vI r2), (0, vR 2000 0), (1, vR 11 0), (2, vR 12 0), (3, vR 66 0), (4, vI x4)]) dL_law_1581 rfl (by decide) rfl ?_
  refine aw_aload_n (j := 4) (i := 2) dL_law_1583 rfl rfl rfl ?_
  refine aw_callV (M' := mX12_thrown) (S := []) (as := []) (k := 0) dL_law_1584 rfl (by decide) rfl rfl gh_1560 gh_1561 gh_1562 mb_X12_thrown rfl (Nat.zero_le _) (Nat.le_of_ble_eq_true rfl) rfl (CL.imp k (fun _ h5 k => ?_) (fun _ _ k => k))
  obtain ⟨r6, rfl, k⟩ := oI_of k
  show AW (oa_X nS sc) (d + 1) _ mL_law 1587 _ [vI r6] h5 Qr Qx
  refine aw_iload (j := 1) (i := 5) dL_law_1587 rfl rfl ?_
  refine aw_icmp_eq 1594 dL_law_1589 rfl rfl (fun c => ?_) (fun c => ?_)
  · replace k := k.1 c
    refine aw_iload (j := 1) (i := 5) dL_law_1594 rfl rfl ?_
    refine aw_if_ne 1611 dL_law_1596 rfl rfl (fun c => ?_) (fun c => ?_)
    · replace k := k.1 c
      refine aw_goto 3140 dL_law_1611 rfl ?_
      exact AW.mono (Nat.le_refl _) (by omega) (aw_sub [2, 3, 4, 5, 6] rfl k)
    · replace k := k.2 c
      refine aw_aload_n (j := 5) (i := 3) dL_law_1599 rfl rfl rfl ?_
      refine aw_iconst (v := 0) dL_law_1600 rfl (by decide) ?_
      refine aw_lald dL_law_1601 rfl (by decide) rfl (by unfold vp_in; decide) ?_
      refine aw_iload (j := 0) (i := 6) dL_law_1602 rfl rfl ?_
      refine aw_i2l dL_law_1604 rfl ?_
      refine aw_lcmp dL_law_1605 rfl ?_
      refine aw_if_eq 1611 dL_law_1606 rfl rfl (fun c => ?_) (fun c => ?_)
      · replace k := k.1 c
        refine aw_goto 3140 dL_law_1611 rfl ?_
        exact AW.mono (Nat.le_refl _) (by omega) (aw_sub [2, 3, 4, 5, 6] rfl k)
      · replace k := k.2 c
        refine aw_iconst (v := 0) dL_law_1609 rfl (by decide) ?_
        exact aw_zret dL_law_1610 rfl (by decide) k
  · replace k := k.2 c
    refine aw_iconst (v := 0) dL_law_1592 rfl (by decide) ?_
    exact aw_zret dL_law_1593 rfl (by decide) k
set_option maxHeartbeats 4000000 in
set_option maxRecDepth 100000 in
theorem vc_L_law_1614 {nS : Nat} {sc : Nat → Int32} {d rb : Nat} {h : Hp} {Qr : Option AV → Hp → Prop} {Qx : String → Hp → Prop} {x4 : Int32} (k : (vp_in (x4 + 1) nS) ∧ (vp_in (x4 + 2) nS) ∧ CLH 1 d mL_orderField [vR 11 0, vI (sc (x4 + 1).toNatClampNeg), vI (sc (x4 + 2).toNatClampNeg), vR 66 0] h (oI fun r2 h1 => (vp_in (x4 + 1) nS) ∧ (vp_in (x4 + 2) nS) ∧ CL 0 d mX12_orderField [vR 12 0, vI (sc (x4 + 1).toNatClampNeg), vI (sc (x4 + 2).toNatClampNeg)] h1 (oI fun r4 h3 => CL 0 d mX12_thrown [vR 12 0] h3 (oI fun r6 h5 => ((r6 = r2) → ((¬ r2 = 0) → AW (oa_X nS sc) (d + 1) rb mL_law 3140 [(0, vR 2000 0), (1, vR 11 0), (2, vR 12 0), (3, vR 66 0), (4, vI x4)] [] h5 Qr Qx) ∧ ((r2 = 0) → (((lg_cmp (h5.2.1 66 0 0) r4.toInt64) = 0) → AW (oa_X nS sc) (d + 1) rb mL_law 3140 [(0, vR 2000 0), (1, vR 11 0), (2, vR 12 0), (3, vR 66 0), (4, vI x4)] [] h5 Qr Qx) ∧ ((¬ (lg_cmp (h5.2.1 66 0 0) r4.toInt64) = 0) → Qr (some (vI 0)) h5))) ∧ ((¬ r6 = r2) → Qr (some (vI 0)) h5)) Qx) Qx) Qx) : AW (oa_X nS sc) (d + 1) (rb + 1) mL_law 1614 [(0, vR 2000 0), (1, vR 11 0), (2, vR 12 0), (3, vR 66 0), (4, vI x4)] [] h Qr Qx := by
  refine aw_aload_n (j := 1) (i := 1) dL_law_1614 rfl rfl rfl ?_
  refine aw_aload_n (j := 0) (i := 0) dL_law_1615 rfl rfl rfl ?_
  refine aw_iload (j := 4) (i := 4) dL_law_1616 rfl rfl ?_
  refine aw_iconst (v := 1) dL_law_1618 rfl (by decide) ?_
  refine aw_iadd dL_law_1619 rfl ?_
  refine aw_sldX dL_law_1620 rfl k.1 ?_
  replace k := k.2
  refine aw_aload_n (j := 0) (i := 0) dL_law_1621 rfl rfl rfl ?_
  refine aw_iload (j := 4) (i := 4) dL_law_1622 rfl rfl ?_
  refine aw_iconst (v := 2) dL_law_1624 rfl (by decide) ?_
  refine aw_iadd dL_law_1625 rfl ?_
  refine aw_sldX dL_law_1626 rfl k.1 ?_
  replace k := k.2
  refine aw_aload_n (j := 3) (i := 3) dL_law_1627 rfl rfl rfl ?_
  refine aw_callSH (M' := mL_orderField) (S := []) (as := [vR 11 0, vI (sc (x4 + 1).toNatClampNeg), vI (sc (x4 + 2).toNatClampNeg), vR 66 0]) (k := 1) dL_law_1628 rfl gh_1264 gh_1265 mb_L_orderField rfl (by omega) (Nat.le_of_ble_eq_true rfl) rfl (CLH.imp k (fun _ h1 k => ?_) (fun _ _ k => k))
  obtain ⟨r2, rfl, k⟩ := oI_of k
  show AW (oa_X nS sc) (d + 1) rb mL_law 1631 _ [vI r2] h1 Qr Qx
  refine aw_istore (i := 5) (L2 := [(5, vI r2), (0, vR 2000 0), (1, vR 11 0), (2, vR 12 0), (3, vR 66 0), (4, vI x4)]) dL_law_1631 rfl (by decide) rfl ?_
  refine aw_aload_n (j := 3) (i := 2) dL_law_1633 rfl rfl rfl ?_
  refine aw_aload_n (j := 1) (i := 0) dL_law_1634 rfl rfl rfl ?_
  refine aw_iload (j := 5) (i := 4) dL_law_1635 rfl rfl ?_
  refine aw_iconst (v := 1) dL_law_1637 rfl (by decide) ?_
  refine aw_iadd dL_law_1638 rfl ?_
  refine aw_sldX dL_law_1639 rfl k.1 ?_
  replace k := k.2
  refine aw_aload_n (j := 1) (i := 0) dL_law_1640 rfl rfl rfl ?_
  refine aw_iload (j := 5) (i := 4) dL_law_1641 rfl rfl ?_
  refine aw_iconst (v := 2) dL_law_1643 rfl (by decide) ?_
  refine aw_iadd dL_law_1644 rfl ?_
  refine aw_sldX dL_law_1645 rfl k.1 ?_
  replace k := k.2
  refine aw_callV (M' := mX12_orderField) (S := []) (as := [vI (sc (x4 + 1).toNatClampNeg), vI (sc (x4 + 2).toNatClampNeg)]) (k := 0) dL_law_1646 rfl (by decide) rfl rfl gh_1891 gh_1892 gh_1893 mb_X12_orderField rfl (Nat.zero_le _) (Nat.le_of_ble_eq_true rfl) rfl (CL.imp k (fun _ h3 k => ?_) (fun _ _ k => k))
  obtain ⟨r4, rfl, k⟩ := oI_of k
  show AW (oa_X nS sc) (d + 1) _ mL_law 1649 _ [vI r4] h3 Qr Qx
  refine aw_istore (i := 6) (L2 := [(6, vI r4), (5, vI r2), (0, vR 2000 0), (1, vR 11 0), (2, vR 12 0), (3, vR 66 0), (4, vI x4)]) dL_law_1649 rfl (by decide) rfl ?_
  refine aw_aload_n (j := 4) (i := 2) dL_law_1651 rfl rfl rfl ?_
  refine aw_callV (M' := mX12_thrown) (S := []) (as := []) (k := 0) dL_law_1652 rfl (by decide) rfl rfl gh_1560 gh_1561 gh_1562 mb_X12_thrown rfl (Nat.zero_le _) (Nat.le_of_ble_eq_true rfl) rfl (CL.imp k (fun _ h5 k => ?_) (fun _ _ k => k))
  obtain ⟨r6, rfl, k⟩ := oI_of k
  show AW (oa_X nS sc) (d + 1) _ mL_law 1655 _ [vI r6] h5 Qr Qx
  refine aw_iload (j := 1) (i := 5) dL_law_1655 rfl rfl ?_
  refine aw_icmp_eq 1662 dL_law_1657 rfl rfl (fun c => ?_) (fun c => ?_)
  · replace k := k.1 c
    refine aw_iload (j := 1) (i := 5) dL_law_1662 rfl rfl ?_
    refine aw_if_ne 1679 dL_law_1664 rfl rfl (fun c => ?_) (fun c => ?_)
    · replace k := k.1 c
      refine aw_goto 3140 dL_law_1679 rfl ?_
      exact AW.mono (Nat.le_refl _) (by omega) (aw_sub [2, 3, 4, 5, 6] rfl k)
    · replace k := k.2 c
      refine aw_aload_n (j := 5) (i := 3) dL_law_1667 rfl rfl rfl ?_
      refine aw_iconst (v := 0) dL_law_1668 rfl (by decide) ?_
      refine aw_lald dL_law_1669 rfl (by decide) rfl (by unfold vp_in; decide) ?_
      refine aw_iload (j := 0) (i := 6) dL_law_1670 rfl rfl ?_
      refine aw_i2l dL_law_1672 rfl ?_
      refine aw_lcmp dL_law_1673 rfl ?_
      refine aw_if_eq 1679 dL_law_1674 rfl rfl (fun c => ?_) (fun c => ?_)
      · replace k := k.1 c
        refine aw_goto 3140 dL_law_1679 rfl ?_
        exact AW.mono (Nat.le_refl _) (by omega) (aw_sub [2, 3, 4, 5, 6] rfl k)
      · replace k := k.2 c
        refine aw_iconst (v := 0) dL_law_1677 rfl (by decide) ?_
        exact aw_zret dL_law_1678 rfl (by decide) k
  · replace k := k.2 c
    refine aw_iconst (v := 0) dL_law_1660 rfl (by decide) ?_
    exact aw_zret dL_law_1661 rfl (by decide) k
set_option maxHeartbeats 4000000 in
set_option maxRecDepth 100000 in
theorem vc_L_law_1682 {nS : Nat} {sc : Nat → Int32} {d rb : Nat} {h : Hp} {Qr : Option AV → Hp → Prop} {Qx : String → Hp → Prop} {x4 : Int32} (k : (vp_in (x4 + 1) nS) ∧ (vp_in (x4 + 2) nS) ∧ CLH 1 d mL_missing [vR 11 0, vI (sc (x4 + 1).toNatClampNeg), vI (sc (x4 + 2).toNatClampNeg), vR 66 0] h (oI fun r2 h1 => (vp_in (x4 + 1) nS) ∧ (vp_in (x4 + 2) nS) ∧ CL 0 d mX12_missing [vR 12 0, vI (sc (x4 + 1).toNatClampNeg), vI (sc (x4 + 2).toNatClampNeg)] h1 (oI fun r4 h3 => CL 0 d mX12_thrown [vR 12 0] h3 (oI fun r6 h5 => ((r6 = r2) → ((¬ r2 = 0) → AW (oa_X nS sc) (d + 1) rb mL_law 3140 [(0, vR 2000 0), (1, vR 11 0), (2, vR 12 0), (3, vR 66 0), (4, vI x4)] [] h5 Qr Qx) ∧ ((r2 = 0) → (((lg_cmp (h5.2.1 66 0 0) r4.toInt64) = 0) → AW (oa_X nS sc) (d + 1) rb mL_law 3140 [(0, vR 2000 0), (1, vR 11 0), (2, vR 12 0), (3, vR 66 0), (4, vI x4)] [] h5 Qr Qx) ∧ ((¬ (lg_cmp (h5.2.1 66 0 0) r4.toInt64) = 0) → Qr (some (vI 0)) h5))) ∧ ((¬ r6 = r2) → Qr (some (vI 0)) h5)) Qx) Qx) Qx) : AW (oa_X nS sc) (d + 1) (rb + 1) mL_law 1682 [(0, vR 2000 0), (1, vR 11 0), (2, vR 12 0), (3, vR 66 0), (4, vI x4)] [] h Qr Qx := by
  refine aw_aload_n (j := 1) (i := 1) dL_law_1682 rfl rfl rfl ?_
  refine aw_aload_n (j := 0) (i := 0) dL_law_1683 rfl rfl rfl ?_
  refine aw_iload (j := 4) (i := 4) dL_law_1684 rfl rfl ?_
  refine aw_iconst (v := 1) dL_law_1686 rfl (by decide) ?_
  refine aw_iadd dL_law_1687 rfl ?_
  refine aw_sldX dL_law_1688 rfl k.1 ?_
  replace k := k.2
  refine aw_aload_n (j := 0) (i := 0) dL_law_1689 rfl rfl rfl ?_
  refine aw_iload (j := 4) (i := 4) dL_law_1690 rfl rfl ?_
  refine aw_iconst (v := 2) dL_law_1692 rfl (by decide) ?_
  refine aw_iadd dL_law_1693 rfl ?_
  refine aw_sldX dL_law_1694 rfl k.1 ?_
  replace k := k.2
  refine aw_aload_n (j := 3) (i := 3) dL_law_1695 rfl rfl rfl ?_
  refine aw_callSH (M' := mL_missing) (S := []) (as := [vR 11 0, vI (sc (x4 + 1).toNatClampNeg), vI (sc (x4 + 2).toNatClampNeg), vR 66 0]) (k := 1) dL_law_1696 rfl gh_1277 gh_1278 mb_L_missing rfl (by omega) (Nat.le_of_ble_eq_true rfl) rfl (CLH.imp k (fun _ h1 k => ?_) (fun _ _ k => k))
  obtain ⟨r2, rfl, k⟩ := oI_of k
  show AW (oa_X nS sc) (d + 1) rb mL_law 1699 _ [vI r2] h1 Qr Qx
  refine aw_istore (i := 5) (L2 := [(5, vI r2), (0, vR 2000 0), (1, vR 11 0), (2, vR 12 0), (3, vR 66 0), (4, vI x4)]) dL_law_1699 rfl (by decide) rfl ?_
  refine aw_aload_n (j := 3) (i := 2) dL_law_1701 rfl rfl rfl ?_
  refine aw_aload_n (j := 1) (i := 0) dL_law_1702 rfl rfl rfl ?_
  refine aw_iload (j := 5) (i := 4) dL_law_1703 rfl rfl ?_
  refine aw_iconst (v := 1) dL_law_1705 rfl (by decide) ?_
  refine aw_iadd dL_law_1706 rfl ?_
  refine aw_sldX dL_law_1707 rfl k.1 ?_
  replace k := k.2
  refine aw_aload_n (j := 1) (i := 0) dL_law_1708 rfl rfl rfl ?_
  refine aw_iload (j := 5) (i := 4) dL_law_1709 rfl rfl ?_
  refine aw_iconst (v := 2) dL_law_1711 rfl (by decide) ?_
  refine aw_iadd dL_law_1712 rfl ?_
  refine aw_sldX dL_law_1713 rfl k.1 ?_
  replace k := k.2
  refine aw_callV (M' := mX12_missing) (S := []) (as := [vI (sc (x4 + 1).toNatClampNeg), vI (sc (x4 + 2).toNatClampNeg)]) (k := 0) dL_law_1714 rfl (by decide) rfl rfl gh_1895 gh_1896 gh_1897 mb_X12_missing rfl (Nat.zero_le _) (Nat.le_of_ble_eq_true rfl) rfl (CL.imp k (fun _ h3 k => ?_) (fun _ _ k => k))
  obtain ⟨r4, rfl, k⟩ := oI_of k
  show AW (oa_X nS sc) (d + 1) _ mL_law 1717 _ [vI r4] h3 Qr Qx
  refine aw_istore (i := 6) (L2 := [(6, vI r4), (5, vI r2), (0, vR 2000 0), (1, vR 11 0), (2, vR 12 0), (3, vR 66 0), (4, vI x4)]) dL_law_1717 rfl (by decide) rfl ?_
  refine aw_aload_n (j := 4) (i := 2) dL_law_1719 rfl rfl rfl ?_
  refine aw_callV (M' := mX12_thrown) (S := []) (as := []) (k := 0) dL_law_1720 rfl (by decide) rfl rfl gh_1560 gh_1561 gh_1562 mb_X12_thrown rfl (Nat.zero_le _) (Nat.le_of_ble_eq_true rfl) rfl (CL.imp k (fun _ h5 k => ?_) (fun _ _ k => k))
  obtain ⟨r6, rfl, k⟩ := oI_of k
  show AW (oa_X nS sc) (d + 1) _ mL_law 1723 _ [vI r6] h5 Qr Qx
  refine aw_iload (j := 1) (i := 5) dL_law_1723 rfl rfl ?_
  refine aw_icmp_eq 1730 dL_law_1725 rfl rfl (fun c => ?_) (fun c => ?_)
  · replace k := k.1 c
    refine aw_iload (j := 1) (i := 5) dL_law_1730 rfl rfl ?_
    refine aw_if_ne 1747 dL_law_1732 rfl rfl (fun c => ?_) (fun c => ?_)
    · replace k := k.1 c
      refine aw_goto 3140 dL_law_1747 rfl ?_
      exact AW.mono (Nat.le_refl _) (by omega) (aw_sub [2, 3, 4, 5, 6] rfl k)
    · replace k := k.2 c
      refine aw_aload_n (j := 5) (i := 3) dL_law_1735 rfl rfl rfl ?_
      refine aw_iconst (v := 0) dL_law_1736 rfl (by decide) ?_
      refine aw_lald dL_law_1737 rfl (by decide) rfl (by unfold vp_in; decide) ?_
      refine aw_iload (j := 0) (i := 6) dL_law_1738 rfl rfl ?_
      refine aw_i2l dL_law_1740 rfl ?_
      refine aw_lcmp dL_law_1741 rfl ?_
      refine aw_if_eq 1747 dL_law_1742 rfl rfl (fun c => ?_) (fun c => ?_)
      · replace k := k.1 c
        refine aw_goto 3140 dL_law_1747 rfl ?_
        exact AW.mono (Nat.le_refl _) (by omega) (aw_sub [2, 3, 4, 5, 6] rfl k)
      · replace k := k.2 c
        refine aw_iconst (v := 0) dL_law_1745 rfl (by decide) ?_
        exact aw_zret dL_law_1746 rfl (by decide) k
  · replace k := k.2 c
    refine aw_iconst (v := 0) dL_law_1728 rfl (by decide) ?_
    exact aw_zret dL_law_1729 rfl (by decide) k
set_option maxHeartbeats 4000000 in
set_option maxRecDepth 100000 in
theorem vc_L_law_1750 {nS : Nat} {sc : Nat → Int32} {d rb : Nat} {h : Hp} {Qr : Option AV → Hp → Prop} {Qx : String → Hp → Prop} {x4 : Int32} (k : (vp_in (x4 + 1) nS) ∧ CLH 1 d mL_toBuy [vR 11 0, vI (sc (x4 + 1).toNatClampNeg), vR 66 0] h (oI fun r2 h1 => (vp_in (x4 + 1) nS) ∧ CL 0 d mX12_toBuy [vR 12 0, vI (sc (x4 + 1).toNatClampNeg)] h1 (oI fun r4 h3 => CL 0 d mX12_thrown [vR 12 0] h3 (oI fun r6 h5 => ((r6 = r2) → ((¬ r2 = 0) → AW (oa_X nS sc) (d + 1) rb mL_law 3140 [(0, vR 2000 0), (1, vR 11 0), (2, vR 12 0), (3, vR 66 0), (4, vI x4)] [] h5 Qr Qx) ∧ ((r2 = 0) → (((lg_cmp (h5.2.1 66 0 0) r4.toInt64) = 0) → AW (oa_X nS sc) (d + 1) rb mL_law 3140 [(0, vR 2000 0), (1, vR 11 0), (2, vR 12 0), (3, vR 66 0), (4, vI x4)] [] h5 Qr Qx) ∧ ((¬ (lg_cmp (h5.2.1 66 0 0) r4.toInt64) = 0) → Qr (some (vI 0)) h5))) ∧ ((¬ r6 = r2) → Qr (some (vI 0)) h5)) Qx) Qx) Qx) : AW (oa_X nS sc) (d + 1) (rb + 1) mL_law 1750 [(0, vR 2000 0), (1, vR 11 0), (2, vR 12 0), (3, vR 66 0), (4, vI x4)] [] h Qr Qx := by
  refine aw_aload_n (j := 1) (i := 1) dL_law_1750 rfl rfl rfl ?_
  refine aw_aload_n (j := 0) (i := 0) dL_law_1751 rfl rfl rfl ?_
  refine aw_iload (j := 4) (i := 4) dL_law_1752 rfl rfl ?_
  refine aw_iconst (v := 1) dL_law_1754 rfl (by decide) ?_
  refine aw_iadd dL_law_1755 rfl ?_
  refine aw_sldX dL_law_1756 rfl k.1 ?_
  replace k := k.2
  refine aw_aload_n (j := 3) (i := 3) dL_law_1757 rfl rfl rfl ?_
  refine aw_callSH (M' := mL_toBuy) (S := []) (as := [vR 11 0, vI (sc (x4 + 1).toNatClampNeg), vR 66 0]) (k := 1) dL_law_1758 rfl gh_1288 gh_1289 mb_L_toBuy rfl (by omega) (Nat.le_of_ble_eq_true rfl) rfl (CLH.imp k (fun _ h1 k => ?_) (fun _ _ k => k))
  obtain ⟨r2, rfl, k⟩ := oI_of k
  show AW (oa_X nS sc) (d + 1) rb mL_law 1761 _ [vI r2] h1 Qr Qx
  refine aw_istore (i := 5) (L2 := [(5, vI r2), (0, vR 2000 0), (1, vR 11 0), (2, vR 12 0), (3, vR 66 0), (4, vI x4)]) dL_law_1761 rfl (by decide) rfl ?_
  refine aw_aload_n (j := 3) (i := 2) dL_law_1763 rfl rfl rfl ?_
  refine aw_aload_n (j := 1) (i := 0) dL_law_1764 rfl rfl rfl ?_
  refine aw_iload (j := 5) (i := 4) dL_law_1765 rfl rfl ?_
  refine aw_iconst (v := 1) dL_law_1767 rfl (by decide) ?_
  refine aw_iadd dL_law_1768 rfl ?_
  refine aw_sldX dL_law_1769 rfl k.1 ?_
  replace k := k.2
  refine aw_callV (M' := mX12_toBuy) (S := []) (as := [vI (sc (x4 + 1).toNatClampNeg)]) (k := 0) dL_law_1770 rfl (by decide) rfl rfl gh_1899 gh_1900 gh_1901 mb_X12_toBuy rfl (Nat.zero_le _) (Nat.le_of_ble_eq_true rfl) rfl (CL.imp k (fun _ h3 k => ?_) (fun _ _ k => k))
  obtain ⟨r4, rfl, k⟩ := oI_of k
  show AW (oa_X nS sc) (d + 1) _ mL_law 1773 _ [vI r4] h3 Qr Qx
  refine aw_istore (i := 6) (L2 := [(6, vI r4), (5, vI r2), (0, vR 2000 0), (1, vR 11 0), (2, vR 12 0), (3, vR 66 0), (4, vI x4)]) dL_law_1773 rfl (by decide) rfl ?_
  refine aw_aload_n (j := 4) (i := 2) dL_law_1775 rfl rfl rfl ?_
  refine aw_callV (M' := mX12_thrown) (S := []) (as := []) (k := 0) dL_law_1776 rfl (by decide) rfl rfl gh_1560 gh_1561 gh_1562 mb_X12_thrown rfl (Nat.zero_le _) (Nat.le_of_ble_eq_true rfl) rfl (CL.imp k (fun _ h5 k => ?_) (fun _ _ k => k))
  obtain ⟨r6, rfl, k⟩ := oI_of k
  show AW (oa_X nS sc) (d + 1) _ mL_law 1779 _ [vI r6] h5 Qr Qx
  refine aw_iload (j := 1) (i := 5) dL_law_1779 rfl rfl ?_
  refine aw_icmp_eq 1786 dL_law_1781 rfl rfl (fun c => ?_) (fun c => ?_)
  · replace k := k.1 c
    refine aw_iload (j := 1) (i := 5) dL_law_1786 rfl rfl ?_
    refine aw_if_ne 1803 dL_law_1788 rfl rfl (fun c => ?_) (fun c => ?_)
    · replace k := k.1 c
      refine aw_goto 3140 dL_law_1803 rfl ?_
      exact AW.mono (Nat.le_refl _) (by omega) (aw_sub [2, 3, 4, 5, 6] rfl k)
    · replace k := k.2 c
      refine aw_aload_n (j := 5) (i := 3) dL_law_1791 rfl rfl rfl ?_
      refine aw_iconst (v := 0) dL_law_1792 rfl (by decide) ?_
      refine aw_lald dL_law_1793 rfl (by decide) rfl (by unfold vp_in; decide) ?_
      refine aw_iload (j := 0) (i := 6) dL_law_1794 rfl rfl ?_
      refine aw_i2l dL_law_1796 rfl ?_
      refine aw_lcmp dL_law_1797 rfl ?_
      refine aw_if_eq 1803 dL_law_1798 rfl rfl (fun c => ?_) (fun c => ?_)
      · replace k := k.1 c
        refine aw_goto 3140 dL_law_1803 rfl ?_
        exact AW.mono (Nat.le_refl _) (by omega) (aw_sub [2, 3, 4, 5, 6] rfl k)
      · replace k := k.2 c
        refine aw_iconst (v := 0) dL_law_1801 rfl (by decide) ?_
        exact aw_zret dL_law_1802 rfl (by decide) k
  · replace k := k.2 c
    refine aw_iconst (v := 0) dL_law_1784 rfl (by decide) ?_
    exact aw_zret dL_law_1785 rfl (by decide) k
set_option maxHeartbeats 4000000 in
set_option maxRecDepth 100000 in
theorem vc_L_law_1806 {nS : Nat} {sc : Nat → Int32} {d rb : Nat} {h : Hp} {Qr : Option AV → Hp → Prop} {Qx : String → Hp → Prop} {x4 : Int32} (k : CL 0 d mX11_scarcestPart [vR 11 0] h (oI fun r2 h1 => CL 0 d mX12_scarcestPart [vR 12 0] h1 (oI fun r4 h3 => ((r2 = r4) → AW (oa_X nS sc) (d + 1) rb mL_law 3140 [(0, vR 2000 0), (1, vR 11 0), (2, vR 12 0), (3, vR 66 0), (4, vI x4)] [] h3 Qr Qx) ∧ ((¬ r2 = r4) → Qr (some (vI 0)) h3)) Qx) Qx) : AW (oa_X nS sc) (d + 1) (rb + 1) mL_law 1806 [(0, vR 2000 0), (1, vR 11 0), (2, vR 12 0), (3, vR 66 0), (4, vI x4)] [] h Qr Qx := by
  refine aw_aload_n (j := 1) (i := 1) dL_law_1806 rfl rfl rfl ?_
  refine aw_callV (M' := mX11_scarcestPart) (S := []) (as := []) (k := 0) dL_law_1807 rfl (by decide) rfl rfl gh_487 gh_488 gh_489 mb_X11_scarcestPart rfl (Nat.zero_le _) (Nat.le_of_ble_eq_true rfl) rfl (CL.imp k (fun _ h1 k => ?_) (fun _ _ k => k))
  obtain ⟨r2, rfl, k⟩ := oI_of k
  show AW (oa_X nS sc) (d + 1) _ mL_law 1810 _ [vI r2] h1 Qr Qx
  refine aw_aload_n (j := 2) (i := 2) dL_law_1810 rfl rfl rfl ?_
  refine aw_callV (M' := mX12_scarcestPart) (S := [vI r2]) (as := []) (k := 0) dL_law_1811 rfl (by decide) rfl rfl gh_1907 gh_1908 gh_1909 mb_X12_scarcestPart rfl (Nat.zero_le _) (Nat.le_of_ble_eq_true rfl) rfl (CL.imp k (fun _ h3 k => ?_) (fun _ _ k => k))
  obtain ⟨r4, rfl, k⟩ := oI_of k
  show AW (oa_X nS sc) (d + 1) _ mL_law 1814 _ [vI r4, vI r2] h3 Qr Qx
  refine aw_icmp_eq 3140 dL_law_1814 rfl rfl (fun c => ?_) (fun c => ?_)
  · replace k := k.1 c
    exact AW.mono (Nat.le_refl _) (by omega) (aw_sub [0, 1, 2, 3, 4] rfl k)
  · replace k := k.2 c
    refine aw_iconst (v := 0) dL_law_1817 rfl (by decide) ?_
    exact aw_zret dL_law_1818 rfl (by decide) k
set_option maxHeartbeats 4000000 in
set_option maxRecDepth 100000 in
theorem vc_L_law_1819 {nS : Nat} {sc : Nat → Int32} {d rb : Nat} {h : Hp} {Qr : Option AV → Hp → Prop} {Qx : String → Hp → Prop} {x4 : Int32} (k : (vp_in (x4 + 1) nS) ∧ (vp_in (x4 + 2) nS) ∧ CLH 1 d mL_promise [vR 11 0, vI (sc (x4 + 1).toNatClampNeg), vI (sc (x4 + 2).toNatClampNeg), vR 66 0] h (oI fun r2 h1 => (vp_in (x4 + 1) nS) ∧ (vp_in (x4 + 2) nS) ∧ CL 0 d mX12_promise [vR 12 0, vI (sc (x4 + 1).toNatClampNeg), vI (sc (x4 + 2).toNatClampNeg)] h1 (oI fun r4 h3 => CL 0 d mX12_thrown [vR 12 0] h3 (oI fun r6 h5 => ((r6 = r2) → ((¬ r2 = 0) → AW (oa_X nS sc) (d + 1) rb mL_law 3140 [(0, vR 2000 0), (1, vR 11 0), (2, vR 12 0), (3, vR 66 0), (4, vI x4)] [] h5 Qr Qx) ∧ ((r2 = 0) → (((lg_cmp (h5.2.1 66 0 0) r4.toInt64) = 0) → AW (oa_X nS sc) (d + 1) rb mL_law 3140 [(0, vR 2000 0), (1, vR 11 0), (2, vR 12 0), (3, vR 66 0), (4, vI x4)] [] h5 Qr Qx) ∧ ((¬ (lg_cmp (h5.2.1 66 0 0) r4.toInt64) = 0) → Qr (some (vI 0)) h5))) ∧ ((¬ r6 = r2) → Qr (some (vI 0)) h5)) Qx) Qx) Qx) : AW (oa_X nS sc) (d + 1) (rb + 1) mL_law 1819 [(0, vR 2000 0), (1, vR 11 0), (2, vR 12 0), (3, vR 66 0), (4, vI x4)] [] h Qr Qx := by
  refine aw_aload_n (j := 1) (i := 1) dL_law_1819 rfl rfl rfl ?_
  refine aw_aload_n (j := 0) (i := 0) dL_law_1820 rfl rfl rfl ?_
  refine aw_iload (j := 4) (i := 4) dL_law_1821 rfl rfl ?_
  refine aw_iconst (v := 1) dL_law_1823 rfl (by decide) ?_
  refine aw_iadd dL_law_1824 rfl ?_
  refine aw_sldX dL_law_1825 rfl k.1 ?_
  replace k := k.2
  refine aw_aload_n (j := 0) (i := 0) dL_law_1826 rfl rfl rfl ?_
  refine aw_iload (j := 4) (i := 4) dL_law_1827 rfl rfl ?_
  refine aw_iconst (v := 2) dL_law_1829 rfl (by decide) ?_
  refine aw_iadd dL_law_1830 rfl ?_
  refine aw_sldX dL_law_1831 rfl k.1 ?_
  replace k := k.2
  refine aw_aload_n (j := 3) (i := 3) dL_law_1832 rfl rfl rfl ?_
  refine aw_callSH (M' := mL_promise) (S := []) (as := [vR 11 0, vI (sc (x4 + 1).toNatClampNeg), vI (sc (x4 + 2).toNatClampNeg), vR 66 0]) (k := 1) dL_law_1833 rfl gh_1295 gh_1296 mb_L_promise rfl (by omega) (Nat.le_of_ble_eq_true rfl) rfl (CLH.imp k (fun _ h1 k => ?_) (fun _ _ k => k))
  obtain ⟨r2, rfl, k⟩ := oI_of k
  show AW (oa_X nS sc) (d + 1) rb mL_law 1836 _ [vI r2] h1 Qr Qx
  refine aw_istore (i := 5) (L2 := [(5, vI r2), (0, vR 2000 0), (1, vR 11 0), (2, vR 12 0), (3, vR 66 0), (4, vI x4)]) dL_law_1836 rfl (by decide) rfl ?_
  refine aw_aload_n (j := 3) (i := 2) dL_law_1838 rfl rfl rfl ?_
  refine aw_aload_n (j := 1) (i := 0) dL_law_1839 rfl rfl rfl ?_
  refine aw_iload (j := 5) (i := 4) dL_law_1840 rfl rfl ?_
  refine aw_iconst (v := 1) dL_law_1842 rfl (by decide) ?_
  refine aw_iadd dL_law_1843 rfl ?_
  refine aw_sldX dL_law_1844 rfl k.1 ?_
  replace k := k.2
  refine aw_aload_n (j := 1) (i := 0) dL_law_1845 rfl rfl rfl ?_
  refine aw_iload (j := 5) (i := 4) dL_law_1846 rfl rfl ?_
  refine aw_iconst (v := 2) dL_law_1848 rfl (by decide) ?_
  refine aw_iadd dL_law_1849 rfl ?_
  refine aw_sldX dL_law_1850 rfl k.1 ?_
  replace k := k.2
  refine aw_callV (M' := mX12_promise) (S := []) (as := [vI (sc (x4 + 1).toNatClampNeg), vI (sc (x4 + 2).toNatClampNeg)]) (k := 0) dL_law_1851 rfl (by decide) rfl rfl gh_1911 gh_1912 gh_1913 mb_X12_promise rfl (Nat.zero_le _) (Nat.le_of_ble_eq_true rfl) rfl (CL.imp k (fun _ h3 k => ?_) (fun _ _ k => k))
  obtain ⟨r4, rfl, k⟩ := oI_of k
  show AW (oa_X nS sc) (d + 1) _ mL_law 1854 _ [vI r4] h3 Qr Qx
  refine aw_istore (i := 6) (L2 := [(6, vI r4), (5, vI r2), (0, vR 2000 0), (1, vR 11 0), (2, vR 12 0), (3, vR 66 0), (4, vI x4)]) dL_law_1854 rfl (by decide) rfl ?_
  refine aw_aload_n (j := 4) (i := 2) dL_law_1856 rfl rfl rfl ?_
  refine aw_callV (M' := mX12_thrown) (S := []) (as := []) (k := 0) dL_law_1857 rfl (by decide) rfl rfl gh_1560 gh_1561 gh_1562 mb_X12_thrown rfl (Nat.zero_le _) (Nat.le_of_ble_eq_true rfl) rfl (CL.imp k (fun _ h5 k => ?_) (fun _ _ k => k))
  obtain ⟨r6, rfl, k⟩ := oI_of k
  show AW (oa_X nS sc) (d + 1) _ mL_law 1860 _ [vI r6] h5 Qr Qx
  refine aw_iload (j := 1) (i := 5) dL_law_1860 rfl rfl ?_
  refine aw_icmp_eq 1867 dL_law_1862 rfl rfl (fun c => ?_) (fun c => ?_)
  · replace k := k.1 c
    refine aw_iload (j := 1) (i := 5) dL_law_1867 rfl rfl ?_
    refine aw_if_ne 1884 dL_law_1869 rfl rfl (fun c => ?_) (fun c => ?_)
    · replace k := k.1 c
      refine aw_goto 3140 dL_law_1884 rfl ?_
      exact AW.mono (Nat.le_refl _) (by omega) (aw_sub [2, 3, 4, 5, 6] rfl k)
    · replace k := k.2 c
      refine aw_aload_n (j := 5) (i := 3) dL_law_1872 rfl rfl rfl ?_
      refine aw_iconst (v := 0) dL_law_1873 rfl (by decide) ?_
      refine aw_lald dL_law_1874 rfl (by decide) rfl (by unfold vp_in; decide) ?_
      refine aw_iload (j := 0) (i := 6) dL_law_1875 rfl rfl ?_
      refine aw_i2l dL_law_1877 rfl ?_
      refine aw_lcmp dL_law_1878 rfl ?_
      refine aw_if_eq 1884 dL_law_1879 rfl rfl (fun c => ?_) (fun c => ?_)
      · replace k := k.1 c
        refine aw_goto 3140 dL_law_1884 rfl ?_
        exact AW.mono (Nat.le_refl _) (by omega) (aw_sub [2, 3, 4, 5, 6] rfl k)
      · replace k := k.2 c
        refine aw_iconst (v := 0) dL_law_1882 rfl (by decide) ?_
        exact aw_zret dL_law_1883 rfl (by decide) k
  · replace k := k.2 c
    refine aw_iconst (v := 0) dL_law_1865 rfl (by decide) ?_
    exact aw_zret dL_law_1866 rfl (by decide) k
set_option maxHeartbeats 4000000 in
set_option maxRecDepth 100000 in
theorem vc_L_law_1887 {nS : Nat} {sc : Nat → Int32} {d rb : Nat} {h : Hp} {Qr : Option AV → Hp → Prop} {Qx : String → Hp → Prop} {x4 : Int32} (k : (vp_in (x4 + 1) nS) ∧ CLH 1 d mL_promiseOf [vR 11 0, vI (sc (x4 + 1).toNatClampNeg), vR 66 0] h (oI fun r2 h1 => (vp_in (x4 + 1) nS) ∧ CL 0 d mX12_promiseOf [vR 12 0, vI (sc (x4 + 1).toNatClampNeg)] h1 (oI fun r4 h3 => CL 0 d mX12_thrown [vR 12 0] h3 (oI fun r6 h5 => ((r6 = r2) → ((¬ r2 = 0) → AW (oa_X nS sc) (d + 1) rb mL_law 3140 [(0, vR 2000 0), (1, vR 11 0), (2, vR 12 0), (3, vR 66 0), (4, vI x4)] [] h5 Qr Qx) ∧ ((r2 = 0) → (((lg_cmp (h5.2.1 66 0 0) r4.toInt64) = 0) → AW (oa_X nS sc) (d + 1) rb mL_law 3140 [(0, vR 2000 0), (1, vR 11 0), (2, vR 12 0), (3, vR 66 0), (4, vI x4)] [] h5 Qr Qx) ∧ ((¬ (lg_cmp (h5.2.1 66 0 0) r4.toInt64) = 0) → Qr (some (vI 0)) h5))) ∧ ((¬ r6 = r2) → Qr (some (vI 0)) h5)) Qx) Qx) Qx) : AW (oa_X nS sc) (d + 1) (rb + 1) mL_law 1887 [(0, vR 2000 0), (1, vR 11 0), (2, vR 12 0), (3, vR 66 0), (4, vI x4)] [] h Qr Qx := by
  refine aw_aload_n (j := 1) (i := 1) dL_law_1887 rfl rfl rfl ?_
  refine aw_aload_n (j := 0) (i := 0) dL_law_1888 rfl rfl rfl ?_
  refine aw_iload (j := 4) (i := 4) dL_law_1889 rfl rfl ?_
  refine aw_iconst (v := 1) dL_law_1891 rfl (by decide) ?_
  refine aw_iadd dL_law_1892 rfl ?_
  refine aw_sldX dL_law_1893 rfl k.1 ?_
  replace k := k.2
  refine aw_aload_n (j := 3) (i := 3) dL_law_1894 rfl rfl rfl ?_
  refine aw_callSH (M' := mL_promiseOf) (S := []) (as := [vR 11 0, vI (sc (x4 + 1).toNatClampNeg), vR 66 0]) (k := 1) dL_law_1895 rfl gh_1302 gh_1303 mb_L_promiseOf rfl (by omega) (Nat.le_of_ble_eq_true rfl) rfl (CLH.imp k (fun _ h1 k => ?_) (fun _ _ k => k))
  obtain ⟨r2, rfl, k⟩ := oI_of k
  show AW (oa_X nS sc) (d + 1) rb mL_law 1898 _ [vI r2] h1 Qr Qx
  refine aw_istore (i := 5) (L2 := [(5, vI r2), (0, vR 2000 0), (1, vR 11 0), (2, vR 12 0), (3, vR 66 0), (4, vI x4)]) dL_law_1898 rfl (by decide) rfl ?_
  refine aw_aload_n (j := 3) (i := 2) dL_law_1900 rfl rfl rfl ?_
  refine aw_aload_n (j := 1) (i := 0) dL_law_1901 rfl rfl rfl ?_
  refine aw_iload (j := 5) (i := 4) dL_law_1902 rfl rfl ?_
  refine aw_iconst (v := 1) dL_law_1904 rfl (by decide) ?_
  refine aw_iadd dL_law_1905 rfl ?_
  refine aw_sldX dL_law_1906 rfl k.1 ?_
  replace k := k.2
  refine aw_callV (M' := mX12_promiseOf) (S := []) (as := [vI (sc (x4 + 1).toNatClampNeg)]) (k := 0) dL_law_1907 rfl (by decide) rfl rfl gh_1923 gh_1924 gh_1925 mb_X12_promiseOf rfl (Nat.zero_le _) (Nat.le_of_ble_eq_true rfl) rfl (CL.imp k (fun _ h3 k => ?_) (fun _ _ k => k))
  obtain ⟨r4, rfl, k⟩ := oI_of k
  show AW (oa_X nS sc) (d + 1) _ mL_law 1910 _ [vI r4] h3 Qr Qx
  refine aw_istore (i := 6) (L2 := [(6, vI r4), (5, vI r2), (0, vR 2000 0), (1, vR 11 0), (2, vR 12 0), (3, vR 66 0), (4, vI x4)]) dL_law_1910 rfl (by decide) rfl ?_
  refine aw_aload_n (j := 4) (i := 2) dL_law_1912 rfl rfl rfl ?_
  refine aw_callV (M' := mX12_thrown) (S := []) (as := []) (k := 0) dL_law_1913 rfl (by decide) rfl rfl gh_1560 gh_1561 gh_1562 mb_X12_thrown rfl (Nat.zero_le _) (Nat.le_of_ble_eq_true rfl) rfl (CL.imp k (fun _ h5 k => ?_) (fun _ _ k => k))
  obtain ⟨r6, rfl, k⟩ := oI_of k
  show AW (oa_X nS sc) (d + 1) _ mL_law 1916 _ [vI r6] h5 Qr Qx
  refine aw_iload (j := 1) (i := 5) dL_law_1916 rfl rfl ?_
  refine aw_icmp_eq 1923 dL_law_1918 rfl rfl (fun c => ?_) (fun c => ?_)
  · replace k := k.1 c
    refine aw_iload (j := 1) (i := 5) dL_law_1923 rfl rfl ?_
    refine aw_if_ne 1940 dL_law_1925 rfl rfl (fun c => ?_) (fun c => ?_)
    · replace k := k.1 c
      refine aw_goto 3140 dL_law_1940 rfl ?_
      exact AW.mono (Nat.le_refl _) (by omega) (aw_sub [2, 3, 4, 5, 6] rfl k)
    · replace k := k.2 c
      refine aw_aload_n (j := 5) (i := 3) dL_law_1928 rfl rfl rfl ?_
      refine aw_iconst (v := 0) dL_law_1929 rfl (by decide) ?_
      refine aw_lald dL_law_1930 rfl (by decide) rfl (by unfold vp_in; decide) ?_
      refine aw_iload (j := 0) (i := 6) dL_law_1931 rfl rfl ?_
      refine aw_i2l dL_law_1933 rfl ?_
      refine aw_lcmp dL_law_1934 rfl ?_
      refine aw_if_eq 1940 dL_law_1935 rfl rfl (fun c => ?_) (fun c => ?_)
      · replace k := k.1 c
        refine aw_goto 3140 dL_law_1940 rfl ?_
        exact AW.mono (Nat.le_refl _) (by omega) (aw_sub [2, 3, 4, 5, 6] rfl k)
      · replace k := k.2 c
        refine aw_iconst (v := 0) dL_law_1938 rfl (by decide) ?_
        exact aw_zret dL_law_1939 rfl (by decide) k
  · replace k := k.2 c
    refine aw_iconst (v := 0) dL_law_1921 rfl (by decide) ?_
    exact aw_zret dL_law_1922 rfl (by decide) k
set_option maxHeartbeats 4000000 in
set_option maxRecDepth 100000 in
theorem vc_L_law_1943 {nS : Nat} {sc : Nat → Int32} {d rb : Nat} {h : Hp} {Qr : Option AV → Hp → Prop} {Qx : String → Hp → Prop} {x4 : Int32} (k : (vp_in (x4 + 1) nS) ∧ CLH 1 d mL_delayingPart [vR 11 0, vI (sc (x4 + 1).toNatClampNeg), vR 66 0] h (oI fun r2 h1 => (vp_in (x4 + 1) nS) ∧ CL 0 d mX12_delayingPart [vR 12 0, vI (sc (x4 + 1).toNatClampNeg)] h1 (oI fun r4 h3 => CL 0 d mX12_thrown [vR 12 0] h3 (oI fun r6 h5 => ((r6 = r2) → ((¬ r2 = 0) → AW (oa_X nS sc) (d + 1) rb mL_law 3140 [(0, vR 2000 0), (1, vR 11 0), (2, vR 12 0), (3, vR 66 0), (4, vI x4)] [] h5 Qr Qx) ∧ ((r2 = 0) → (((lg_cmp (h5.2.1 66 0 0) r4.toInt64) = 0) → AW (oa_X nS sc) (d + 1) rb mL_law 3140 [(0, vR 2000 0), (1, vR 11 0), (2, vR 12 0), (3, vR 66 0), (4, vI x4)] [] h5 Qr Qx) ∧ ((¬ (lg_cmp (h5.2.1 66 0 0) r4.toInt64) = 0) → Qr (some (vI 0)) h5))) ∧ ((¬ r6 = r2) → Qr (some (vI 0)) h5)) Qx) Qx) Qx) : AW (oa_X nS sc) (d + 1) (rb + 1) mL_law 1943 [(0, vR 2000 0), (1, vR 11 0), (2, vR 12 0), (3, vR 66 0), (4, vI x4)] [] h Qr Qx := by
  refine aw_aload_n (j := 1) (i := 1) dL_law_1943 rfl rfl rfl ?_
  refine aw_aload_n (j := 0) (i := 0) dL_law_1944 rfl rfl rfl ?_
  refine aw_iload (j := 4) (i := 4) dL_law_1945 rfl rfl ?_
  refine aw_iconst (v := 1) dL_law_1947 rfl (by decide) ?_
  refine aw_iadd dL_law_1948 rfl ?_
  refine aw_sldX dL_law_1949 rfl k.1 ?_
  replace k := k.2
  refine aw_aload_n (j := 3) (i := 3) dL_law_1950 rfl rfl rfl ?_
  refine aw_callSH (M' := mL_delayingPart) (S := []) (as := [vR 11 0, vI (sc (x4 + 1).toNatClampNeg), vR 66 0]) (k := 1) dL_law_1951 rfl gh_1313 gh_1314 mb_L_delayingPart rfl (by omega) (Nat.le_of_ble_eq_true rfl) rfl (CLH.imp k (fun _ h1 k => ?_) (fun _ _ k => k))
  obtain ⟨r2, rfl, k⟩ := oI_of k
  show AW (oa_X nS sc) (d + 1) rb mL_law 1954 _ [vI r2] h1 Qr Qx
  refine aw_istore (i := 5) (L2 := [(5, vI r2), (0, vR 2000 0), (1, vR 11 0), (2, vR 12 0), (3, vR 66 0), (4, vI x4)]) dL_law_1954 rfl (by decide) rfl ?_
  refine aw_aload_n (j := 3) (i := 2) dL_law_1956 rfl rfl rfl ?_
  refine aw_aload_n (j := 1) (i := 0) dL_law_1957 rfl rfl rfl ?_
  refine aw_iload (j := 5) (i := 4) dL_law_1958 rfl rfl ?_
  refine aw_iconst (v := 1) dL_law_1960 rfl (by decide) ?_
  refine aw_iadd dL_law_1961 rfl ?_
  refine aw_sldX dL_law_1962 rfl k.1 ?_
  replace k := k.2
  refine aw_callV (M' := mX12_delayingPart) (S := []) (as := [vI (sc (x4 + 1).toNatClampNeg)]) (k := 0) dL_law_1963 rfl (by decide) rfl rfl gh_1931 gh_1932 gh_1933 mb_X12_delayingPart rfl (Nat.zero_le _) (Nat.le_of_ble_eq_true rfl) rfl (CL.imp k (fun _ h3 k => ?_) (fun _ _ k => k))
  obtain ⟨r4, rfl, k⟩ := oI_of k
  show AW (oa_X nS sc) (d + 1) _ mL_law 1966 _ [vI r4] h3 Qr Qx
  refine aw_istore (i := 6) (L2 := [(6, vI r4), (5, vI r2), (0, vR 2000 0), (1, vR 11 0), (2, vR 12 0), (3, vR 66 0), (4, vI x4)]) dL_law_1966 rfl (by decide) rfl ?_
  refine aw_aload_n (j := 4) (i := 2) dL_law_1968 rfl rfl rfl ?_
  refine aw_callV (M' := mX12_thrown) (S := []) (as := []) (k := 0) dL_law_1969 rfl (by decide) rfl rfl gh_1560 gh_1561 gh_1562 mb_X12_thrown rfl (Nat.zero_le _) (Nat.le_of_ble_eq_true rfl) rfl (CL.imp k (fun _ h5 k => ?_) (fun _ _ k => k))
  obtain ⟨r6, rfl, k⟩ := oI_of k
  show AW (oa_X nS sc) (d + 1) _ mL_law 1972 _ [vI r6] h5 Qr Qx
  refine aw_iload (j := 1) (i := 5) dL_law_1972 rfl rfl ?_
  refine aw_icmp_eq 1979 dL_law_1974 rfl rfl (fun c => ?_) (fun c => ?_)
  · replace k := k.1 c
    refine aw_iload (j := 1) (i := 5) dL_law_1979 rfl rfl ?_
    refine aw_if_ne 1996 dL_law_1981 rfl rfl (fun c => ?_) (fun c => ?_)
    · replace k := k.1 c
      refine aw_goto 3140 dL_law_1996 rfl ?_
      exact AW.mono (Nat.le_refl _) (by omega) (aw_sub [2, 3, 4, 5, 6] rfl k)
    · replace k := k.2 c
      refine aw_aload_n (j := 5) (i := 3) dL_law_1984 rfl rfl rfl ?_
      refine aw_iconst (v := 0) dL_law_1985 rfl (by decide) ?_
      refine aw_lald dL_law_1986 rfl (by decide) rfl (by unfold vp_in; decide) ?_
      refine aw_iload (j := 0) (i := 6) dL_law_1987 rfl rfl ?_
      refine aw_i2l dL_law_1989 rfl ?_
      refine aw_lcmp dL_law_1990 rfl ?_
      refine aw_if_eq 1996 dL_law_1991 rfl rfl (fun c => ?_) (fun c => ?_)
      · replace k := k.1 c
        refine aw_goto 3140 dL_law_1996 rfl ?_
        exact AW.mono (Nat.le_refl _) (by omega) (aw_sub [2, 3, 4, 5, 6] rfl k)
      · replace k := k.2 c
        refine aw_iconst (v := 0) dL_law_1994 rfl (by decide) ?_
        exact aw_zret dL_law_1995 rfl (by decide) k
  · replace k := k.2 c
    refine aw_iconst (v := 0) dL_law_1977 rfl (by decide) ?_
    exact aw_zret dL_law_1978 rfl (by decide) k
set_option maxHeartbeats 4000000 in
set_option maxRecDepth 100000 in
theorem vc_L_law_1999 {nS : Nat} {sc : Nat → Int32} {d rb : Nat} {h : Hp} {Qr : Option AV → Hp → Prop} {Qx : String → Hp → Prop} {x4 : Int32} (k : CL 0 d mX11_lateOrders [vR 11 0] h (oI fun r2 h1 => CL 0 d mX12_lateOrders [vR 12 0] h1 (oI fun r4 h3 => ((r2 = r4) → AW (oa_X nS sc) (d + 1) rb mL_law 3140 [(0, vR 2000 0), (1, vR 11 0), (2, vR 12 0), (3, vR 66 0), (4, vI x4)] [] h3 Qr Qx) ∧ ((¬ r2 = r4) → Qr (some (vI 0)) h3)) Qx) Qx) : AW (oa_X nS sc) (d + 1) (rb + 1) mL_law 1999 [(0, vR 2000 0), (1, vR 11 0), (2, vR 12 0), (3, vR 66 0), (4, vI x4)] [] h Qr Qx := by
  refine aw_aload_n (j := 1) (i := 1) dL_law_1999 rfl rfl rfl ?_
  refine aw_callV (M' := mX11_lateOrders) (S := []) (as := []) (k := 0) dL_law_2000 rfl (by decide) rfl rfl gh_536 gh_537 gh_538 mb_X11_lateOrders rfl (Nat.zero_le _) (Nat.le_of_ble_eq_true rfl) rfl (CL.imp k (fun _ h1 k => ?_) (fun _ _ k => k))
  obtain ⟨r2, rfl, k⟩ := oI_of k
  show AW (oa_X nS sc) (d + 1) _ mL_law 2003 _ [vI r2] h1 Qr Qx
  refine aw_aload_n (j := 2) (i := 2) dL_law_2003 rfl rfl rfl ?_
  refine aw_callV (M' := mX12_lateOrders) (S := [vI r2]) (as := []) (k := 0) dL_law_2004 rfl (by decide) rfl rfl gh_1935 gh_1936 gh_1937 mb_X12_lateOrders rfl (Nat.zero_le _) (Nat.le_of_ble_eq_true rfl) rfl (CL.imp k (fun _ h3 k => ?_) (fun _ _ k => k))
  obtain ⟨r4, rfl, k⟩ := oI_of k
  show AW (oa_X nS sc) (d + 1) _ mL_law 2007 _ [vI r4, vI r2] h3 Qr Qx
  refine aw_icmp_eq 3140 dL_law_2007 rfl rfl (fun c => ?_) (fun c => ?_)
  · replace k := k.1 c
    exact AW.mono (Nat.le_refl _) (by omega) (aw_sub [0, 1, 2, 3, 4] rfl k)
  · replace k := k.2 c
    refine aw_iconst (v := 0) dL_law_2010 rfl (by decide) ?_
    exact aw_zret dL_law_2011 rfl (by decide) k
set_option maxHeartbeats 4000000 in
set_option maxRecDepth 100000 in
theorem vc_L_law_2012 {nS : Nat} {sc : Nat → Int32} {d rb : Nat} {h : Hp} {Qr : Option AV → Hp → Prop} {Qx : String → Hp → Prop} {x4 : Int32} (k : (vp_in (x4 + 1) nS) ∧ CLH 1 d mL_wouldGet [vR 11 0, vI (sc (x4 + 1).toNatClampNeg), vR 66 0] h (oI fun r2 h1 => (vp_in (x4 + 1) nS) ∧ CL 0 d mX12_wouldGet [vR 12 0, vI (sc (x4 + 1).toNatClampNeg)] h1 (oI fun r4 h3 => CL 0 d mX12_thrown [vR 12 0] h3 (oI fun r6 h5 => ((r6 = r2) → ((¬ r2 = 0) → AW (oa_X nS sc) (d + 1) rb mL_law 3140 [(0, vR 2000 0), (1, vR 11 0), (2, vR 12 0), (3, vR 66 0), (4, vI x4)] [] h5 Qr Qx) ∧ ((r2 = 0) → (((lg_cmp (h5.2.1 66 0 0) r4.toInt64) = 0) → AW (oa_X nS sc) (d + 1) rb mL_law 3140 [(0, vR 2000 0), (1, vR 11 0), (2, vR 12 0), (3, vR 66 0), (4, vI x4)] [] h5 Qr Qx) ∧ ((¬ (lg_cmp (h5.2.1 66 0 0) r4.toInt64) = 0) → Qr (some (vI 0)) h5))) ∧ ((¬ r6 = r2) → Qr (some (vI 0)) h5)) Qx) Qx) Qx) : AW (oa_X nS sc) (d + 1) (rb + 1) mL_law 2012 [(0, vR 2000 0), (1, vR 11 0), (2, vR 12 0), (3, vR 66 0), (4, vI x4)] [] h Qr Qx := by
  refine aw_aload_n (j := 1) (i := 1) dL_law_2012 rfl rfl rfl ?_
  refine aw_aload_n (j := 0) (i := 0) dL_law_2013 rfl rfl rfl ?_
  refine aw_iload (j := 4) (i := 4) dL_law_2014 rfl rfl ?_
  refine aw_iconst (v := 1) dL_law_2016 rfl (by decide) ?_
  refine aw_iadd dL_law_2017 rfl ?_
  refine aw_sldX dL_law_2018 rfl k.1 ?_
  replace k := k.2
  refine aw_aload_n (j := 3) (i := 3) dL_law_2019 rfl rfl rfl ?_
  refine aw_callSH (M' := mL_wouldGet) (S := []) (as := [vR 11 0, vI (sc (x4 + 1).toNatClampNeg), vR 66 0]) (k := 1) dL_law_2020 rfl gh_1320 gh_1321 mb_L_wouldGet rfl (by omega) (Nat.le_of_ble_eq_true rfl) rfl (CLH.imp k (fun _ h1 k => ?_) (fun _ _ k => k))
  obtain ⟨r2, rfl, k⟩ := oI_of k
  show AW (oa_X nS sc) (d + 1) rb mL_law 2023 _ [vI r2] h1 Qr Qx
  refine aw_istore (i := 5) (L2 := [(5, vI r2), (0, vR 2000 0), (1, vR 11 0), (2, vR 12 0), (3, vR 66 0), (4, vI x4)]) dL_law_2023 rfl (by decide) rfl ?_
  refine aw_aload_n (j := 3) (i := 2) dL_law_2025 rfl rfl rfl ?_
  refine aw_aload_n (j := 1) (i := 0) dL_law_2026 rfl rfl rfl ?_
  refine aw_iload (j := 5) (i := 4) dL_law_2027 rfl rfl ?_
  refine aw_iconst (v := 1) dL_law_2029 rfl (by decide) ?_
  refine aw_iadd dL_law_2030 rfl ?_
  refine aw_sldX dL_law_2031 rfl k.1 ?_
  replace k := k.2
  refine aw_callV (M' := mX12_wouldGet) (S := []) (as := [vI (sc (x4 + 1).toNatClampNeg)]) (k := 0) dL_law_2032 rfl (by decide) rfl rfl gh_1939 gh_1940 gh_1941 mb_X12_wouldGet rfl (Nat.zero_le _) (Nat.le_of_ble_eq_true rfl) rfl (CL.imp k (fun _ h3 k => ?_) (fun _ _ k => k))
  obtain ⟨r4, rfl, k⟩ := oI_of k
  show AW (oa_X nS sc) (d + 1) _ mL_law 2035 _ [vI r4] h3 Qr Qx
  refine aw_istore (i := 6) (L2 := [(6, vI r4), (5, vI r2), (0, vR 2000 0), (1, vR 11 0), (2, vR 12 0), (3, vR 66 0), (4, vI x4)]) dL_law_2035 rfl (by decide) rfl ?_
  refine aw_aload_n (j := 4) (i := 2) dL_law_2037 rfl rfl rfl ?_
  refine aw_callV (M' := mX12_thrown) (S := []) (as := []) (k := 0) dL_law_2038 rfl (by decide) rfl rfl gh_1560 gh_1561 gh_1562 mb_X12_thrown rfl (Nat.zero_le _) (Nat.le_of_ble_eq_true rfl) rfl (CL.imp k (fun _ h5 k => ?_) (fun _ _ k => k))
  obtain ⟨r6, rfl, k⟩ := oI_of k
  show AW (oa_X nS sc) (d + 1) _ mL_law 2041 _ [vI r6] h5 Qr Qx
  refine aw_iload (j := 1) (i := 5) dL_law_2041 rfl rfl ?_
  refine aw_icmp_eq 2048 dL_law_2043 rfl rfl (fun c => ?_) (fun c => ?_)
  · replace k := k.1 c
    refine aw_iload (j := 1) (i := 5) dL_law_2048 rfl rfl ?_
    refine aw_if_ne 2065 dL_law_2050 rfl rfl (fun c => ?_) (fun c => ?_)
    · replace k := k.1 c
      refine aw_goto 3140 dL_law_2065 rfl ?_
      exact AW.mono (Nat.le_refl _) (by omega) (aw_sub [2, 3, 4, 5, 6] rfl k)
    · replace k := k.2 c
      refine aw_aload_n (j := 5) (i := 3) dL_law_2053 rfl rfl rfl ?_
      refine aw_iconst (v := 0) dL_law_2054 rfl (by decide) ?_
      refine aw_lald dL_law_2055 rfl (by decide) rfl (by unfold vp_in; decide) ?_
      refine aw_iload (j := 0) (i := 6) dL_law_2056 rfl rfl ?_
      refine aw_i2l dL_law_2058 rfl ?_
      refine aw_lcmp dL_law_2059 rfl ?_
      refine aw_if_eq 2065 dL_law_2060 rfl rfl (fun c => ?_) (fun c => ?_)
      · replace k := k.1 c
        refine aw_goto 3140 dL_law_2065 rfl ?_
        exact AW.mono (Nat.le_refl _) (by omega) (aw_sub [2, 3, 4, 5, 6] rfl k)
      · replace k := k.2 c
        refine aw_iconst (v := 0) dL_law_2063 rfl (by decide) ?_
        exact aw_zret dL_law_2064 rfl (by decide) k
  · replace k := k.2 c
    refine aw_iconst (v := 0) dL_law_2046 rfl (by decide) ?_
    exact aw_zret dL_law_2047 rfl (by decide) k
set_option maxHeartbeats 4000000 in
set_option maxRecDepth 100000 in
theorem vc_L_law_2068 {nS : Nat} {sc : Nat → Int32} {d rb : Nat} {h : Hp} {Qr : Option AV → Hp → Prop} {Qx : String → Hp → Prop} {x4 : Int32} (k : (vp_in (x4 + 1) nS) ∧ CLH 1 d mL_rungOf [vR 11 0, vI (sc (x4 + 1).toNatClampNeg), vR 66 0] h (oI fun r2 h1 => (vp_in (x4 + 1) nS) ∧ CL 0 d mX12_rungOf [vR 12 0, vI (sc (x4 + 1).toNatClampNeg)] h1 (oI fun r4 h3 => CL 0 d mX12_thrown [vR 12 0] h3 (oI fun r6 h5 => ((r6 = r2) → ((¬ r2 = 0) → AW (oa_X nS sc) (d + 1) rb mL_law 3140 [(0, vR 2000 0), (1, vR 11 0), (2, vR 12 0), (3, vR 66 0), (4, vI x4)] [] h5 Qr Qx) ∧ ((r2 = 0) → (((lg_cmp (h5.2.1 66 0 0) r4.toInt64) = 0) → AW (oa_X nS sc) (d + 1) rb mL_law 3140 [(0, vR 2000 0), (1, vR 11 0), (2, vR 12 0), (3, vR 66 0), (4, vI x4)] [] h5 Qr Qx) ∧ ((¬ (lg_cmp (h5.2.1 66 0 0) r4.toInt64) = 0) → Qr (some (vI 0)) h5))) ∧ ((¬ r6 = r2) → Qr (some (vI 0)) h5)) Qx) Qx) Qx) : AW (oa_X nS sc) (d + 1) (rb + 1) mL_law 2068 [(0, vR 2000 0), (1, vR 11 0), (2, vR 12 0), (3, vR 66 0), (4, vI x4)] [] h Qr Qx := by
  refine aw_aload_n (j := 1) (i := 1) dL_law_2068 rfl rfl rfl ?_
  refine aw_aload_n (j := 0) (i := 0) dL_law_2069 rfl rfl rfl ?_
  refine aw_iload (j := 4) (i := 4) dL_law_2070 rfl rfl ?_
  refine aw_iconst (v := 1) dL_law_2072 rfl (by decide) ?_
  refine aw_iadd dL_law_2073 rfl ?_
  refine aw_sldX dL_law_2074 rfl k.1 ?_
  replace k := k.2
  refine aw_aload_n (j := 3) (i := 3) dL_law_2075 rfl rfl rfl ?_
  refine aw_callSH (M' := mL_rungOf) (S := []) (as := [vR 11 0, vI (sc (x4 + 1).toNatClampNeg), vR 66 0]) (k := 1) dL_law_2076 rfl gh_1327 gh_1328 mb_L_rungOf rfl (by omega) (Nat.le_of_ble_eq_true rfl) rfl (CLH.imp k (fun _ h1 k => ?_) (fun _ _ k => k))
  obtain ⟨r2, rfl, k⟩ := oI_of k
  show AW (oa_X nS sc) (d + 1) rb mL_law 2079 _ [vI r2] h1 Qr Qx
  refine aw_istore (i := 5) (L2 := [(5, vI r2), (0, vR 2000 0), (1, vR 11 0), (2, vR 12 0), (3, vR 66 0), (4, vI x4)]) dL_law_2079 rfl (by decide) rfl ?_
  refine aw_aload_n (j := 3) (i := 2) dL_law_2081 rfl rfl rfl ?_
  refine aw_aload_n (j := 1) (i := 0) dL_law_2082 rfl rfl rfl ?_
  refine aw_iload (j := 5) (i := 4) dL_law_2083 rfl rfl ?_
  refine aw_iconst (v := 1) dL_law_2085 rfl (by decide) ?_
  refine aw_iadd dL_law_2086 rfl ?_
  refine aw_sldX dL_law_2087 rfl k.1 ?_
  replace k := k.2
  refine aw_callV (M' := mX12_rungOf) (S := []) (as := [vI (sc (x4 + 1).toNatClampNeg)]) (k := 0) dL_law_2088 rfl (by decide) rfl rfl gh_1967 gh_1968 gh_1969 mb_X12_rungOf rfl (Nat.zero_le _) (Nat.le_of_ble_eq_true rfl) rfl (CL.imp k (fun _ h3 k => ?_) (fun _ _ k => k))
  obtain ⟨r4, rfl, k⟩ := oI_of k
  show AW (oa_X nS sc) (d + 1) _ mL_law 2091 _ [vI r4] h3 Qr Qx
  refine aw_istore (i := 6) (L2 := [(6, vI r4), (5, vI r2), (0, vR 2000 0), (1, vR 11 0), (2, vR 12 0), (3, vR 66 0), (4, vI x4)]) dL_law_2091 rfl (by decide) rfl ?_
  refine aw_aload_n (j := 4) (i := 2) dL_law_2093 rfl rfl rfl ?_
  refine aw_callV (M' := mX12_thrown) (S := []) (as := []) (k := 0) dL_law_2094 rfl (by decide) rfl rfl gh_1560 gh_1561 gh_1562 mb_X12_thrown rfl (Nat.zero_le _) (Nat.le_of_ble_eq_true rfl) rfl (CL.imp k (fun _ h5 k => ?_) (fun _ _ k => k))
  obtain ⟨r6, rfl, k⟩ := oI_of k
  show AW (oa_X nS sc) (d + 1) _ mL_law 2097 _ [vI r6] h5 Qr Qx
  refine aw_iload (j := 1) (i := 5) dL_law_2097 rfl rfl ?_
  refine aw_icmp_eq 2104 dL_law_2099 rfl rfl (fun c => ?_) (fun c => ?_)
  · replace k := k.1 c
    refine aw_iload (j := 1) (i := 5) dL_law_2104 rfl rfl ?_
    refine aw_if_ne 2121 dL_law_2106 rfl rfl (fun c => ?_) (fun c => ?_)
    · replace k := k.1 c
      refine aw_goto 3140 dL_law_2121 rfl ?_
      exact AW.mono (Nat.le_refl _) (by omega) (aw_sub [2, 3, 4, 5, 6] rfl k)
    · replace k := k.2 c
      refine aw_aload_n (j := 5) (i := 3) dL_law_2109 rfl rfl rfl ?_
      refine aw_iconst (v := 0) dL_law_2110 rfl (by decide) ?_
      refine aw_lald dL_law_2111 rfl (by decide) rfl (by unfold vp_in; decide) ?_
      refine aw_iload (j := 0) (i := 6) dL_law_2112 rfl rfl ?_
      refine aw_i2l dL_law_2114 rfl ?_
      refine aw_lcmp dL_law_2115 rfl ?_
      refine aw_if_eq 2121 dL_law_2116 rfl rfl (fun c => ?_) (fun c => ?_)
      · replace k := k.1 c
        refine aw_goto 3140 dL_law_2121 rfl ?_
        exact AW.mono (Nat.le_refl _) (by omega) (aw_sub [2, 3, 4, 5, 6] rfl k)
      · replace k := k.2 c
        refine aw_iconst (v := 0) dL_law_2119 rfl (by decide) ?_
        exact aw_zret dL_law_2120 rfl (by decide) k
  · replace k := k.2 c
    refine aw_iconst (v := 0) dL_law_2102 rfl (by decide) ?_
    exact aw_zret dL_law_2103 rfl (by decide) k
set_option maxHeartbeats 4000000 in
set_option maxRecDepth 100000 in
theorem vc_L_law_2124 {nS : Nat} {sc : Nat → Int32} {d rb : Nat} {h : Hp} {Qr : Option AV → Hp → Prop} {Qx : String → Hp → Prop} {x4 : Int32} (k : (vp_in (x4 + 1) nS) ∧ CLH 1 d mL_rungUnits [vR 11 0, vI (sc (x4 + 1).toNatClampNeg), vR 66 0] h (oI fun r2 h1 => (vp_in (x4 + 1) nS) ∧ CL 0 d mX12_rungUnits [vR 12 0, vI (sc (x4 + 1).toNatClampNeg)] h1 (oI fun r4 h3 => CL 0 d mX12_thrown [vR 12 0] h3 (oI fun r6 h5 => ((r6 = r2) → ((¬ r2 = 0) → AW (oa_X nS sc) (d + 1) rb mL_law 3140 [(0, vR 2000 0), (1, vR 11 0), (2, vR 12 0), (3, vR 66 0), (4, vI x4)] [] h5 Qr Qx) ∧ ((r2 = 0) → (((lg_cmp (h5.2.1 66 0 0) r4.toInt64) = 0) → AW (oa_X nS sc) (d + 1) rb mL_law 3140 [(0, vR 2000 0), (1, vR 11 0), (2, vR 12 0), (3, vR 66 0), (4, vI x4)] [] h5 Qr Qx) ∧ ((¬ (lg_cmp (h5.2.1 66 0 0) r4.toInt64) = 0) → Qr (some (vI 0)) h5))) ∧ ((¬ r6 = r2) → Qr (some (vI 0)) h5)) Qx) Qx) Qx) : AW (oa_X nS sc) (d + 1) (rb + 1) mL_law 2124 [(0, vR 2000 0), (1, vR 11 0), (2, vR 12 0), (3, vR 66 0), (4, vI x4)] [] h Qr Qx := by
  refine aw_aload_n (j := 1) (i := 1) dL_law_2124 rfl rfl rfl ?_
  refine aw_aload_n (j := 0) (i := 0) dL_law_2125 rfl rfl rfl ?_
  refine aw_iload (j := 4) (i := 4) dL_law_2126 rfl rfl ?_
  refine aw_iconst (v := 1) dL_law_2128 rfl (by decide) ?_
  refine aw_iadd dL_law_2129 rfl ?_
  refine aw_sldX dL_law_2130 rfl k.1 ?_
  replace k := k.2
  refine aw_aload_n (j := 3) (i := 3) dL_law_2131 rfl rfl rfl ?_
  refine aw_callSH (M' := mL_rungUnits) (S := []) (as := [vR 11 0, vI (sc (x4 + 1).toNatClampNeg), vR 66 0]) (k := 1) dL_law_2132 rfl gh_1338 gh_1339 mb_L_rungUnits rfl (by omega) (Nat.le_of_ble_eq_true rfl) rfl (CLH.imp k (fun _ h1 k => ?_) (fun _ _ k => k))
  obtain ⟨r2, rfl, k⟩ := oI_of k
  show AW (oa_X nS sc) (d + 1) rb mL_law 2135 _ [vI r2] h1 Qr Qx
  refine aw_istore (i := 5) (L2 := [(5, vI r2), (0, vR 2000 0), (1, vR 11 0), (2, vR 12 0), (3, vR 66 0), (4, vI x4)]) dL_law_2135 rfl (by decide) rfl ?_
  refine aw_aload_n (j := 3) (i := 2) dL_law_2137 rfl rfl rfl ?_
  refine aw_aload_n (j := 1) (i := 0) dL_law_2138 rfl rfl rfl ?_
  refine aw_iload (j := 5) (i := 4) dL_law_2139 rfl rfl ?_
  refine aw_iconst (v := 1) dL_law_2141 rfl (by decide) ?_
  refine aw_iadd dL_law_2142 rfl ?_
  refine aw_sldX dL_law_2143 rfl k.1 ?_
  replace k := k.2
  refine aw_callV (M' := mX12_rungUnits) (S := []) (as := [vI (sc (x4 + 1).toNatClampNeg)]) (k := 0) dL_law_2144 rfl (by decide) rfl rfl gh_1971 gh_1972 gh_1973 mb_X12_rungUnits rfl (Nat.zero_le _) (Nat.le_of_ble_eq_true rfl) rfl (CL.imp k (fun _ h3 k => ?_) (fun _ _ k => k))
  obtain ⟨r4, rfl, k⟩ := oI_of k
  show AW (oa_X nS sc) (d + 1) _ mL_law 2147 _ [vI r4] h3 Qr Qx
  refine aw_istore (i := 6) (L2 := [(6, vI r4), (5, vI r2), (0, vR 2000 0), (1, vR 11 0), (2, vR 12 0), (3, vR 66 0), (4, vI x4)]) dL_law_2147 rfl (by decide) rfl ?_
  refine aw_aload_n (j := 4) (i := 2) dL_law_2149 rfl rfl rfl ?_
  refine aw_callV (M' := mX12_thrown) (S := []) (as := []) (k := 0) dL_law_2150 rfl (by decide) rfl rfl gh_1560 gh_1561 gh_1562 mb_X12_thrown rfl (Nat.zero_le _) (Nat.le_of_ble_eq_true rfl) rfl (CL.imp k (fun _ h5 k => ?_) (fun _ _ k => k))
  obtain ⟨r6, rfl, k⟩ := oI_of k
  show AW (oa_X nS sc) (d + 1) _ mL_law 2153 _ [vI r6] h5 Qr Qx
  refine aw_iload (j := 1) (i := 5) dL_law_2153 rfl rfl ?_
  refine aw_icmp_eq 2160 dL_law_2155 rfl rfl (fun c => ?_) (fun c => ?_)
  · replace k := k.1 c
    refine aw_iload (j := 1) (i := 5) dL_law_2160 rfl rfl ?_
    refine aw_if_ne 2177 dL_law_2162 rfl rfl (fun c => ?_) (fun c => ?_)
    · replace k := k.1 c
      refine aw_goto 3140 dL_law_2177 rfl ?_
      exact AW.mono (Nat.le_refl _) (by omega) (aw_sub [2, 3, 4, 5, 6] rfl k)
    · replace k := k.2 c
      refine aw_aload_n (j := 5) (i := 3) dL_law_2165 rfl rfl rfl ?_
      refine aw_iconst (v := 0) dL_law_2166 rfl (by decide) ?_
      refine aw_lald dL_law_2167 rfl (by decide) rfl (by unfold vp_in; decide) ?_
      refine aw_iload (j := 0) (i := 6) dL_law_2168 rfl rfl ?_
      refine aw_i2l dL_law_2170 rfl ?_
      refine aw_lcmp dL_law_2171 rfl ?_
      refine aw_if_eq 2177 dL_law_2172 rfl rfl (fun c => ?_) (fun c => ?_)
      · replace k := k.1 c
        refine aw_goto 3140 dL_law_2177 rfl ?_
        exact AW.mono (Nat.le_refl _) (by omega) (aw_sub [2, 3, 4, 5, 6] rfl k)
      · replace k := k.2 c
        refine aw_iconst (v := 0) dL_law_2175 rfl (by decide) ?_
        exact aw_zret dL_law_2176 rfl (by decide) k
  · replace k := k.2 c
    refine aw_iconst (v := 0) dL_law_2158 rfl (by decide) ?_
    exact aw_zret dL_law_2159 rfl (by decide) k
set_option maxHeartbeats 4000000 in
set_option maxRecDepth 100000 in
theorem vc_L_law_2180 {nS : Nat} {sc : Nat → Int32} {d rb : Nat} {h : Hp} {Qr : Option AV → Hp → Prop} {Qx : String → Hp → Prop} {x4 : Int32} (k : (vp_in (x4 + 1) nS) ∧ CLH 1 d mL_missingPieces [vR 11 0, vI (sc (x4 + 1).toNatClampNeg), vR 66 0] h (oI fun r2 h1 => (vp_in (x4 + 1) nS) ∧ CL 0 d mX12_missingPieces [vR 12 0, vI (sc (x4 + 1).toNatClampNeg)] h1 (oI fun r4 h3 => CL 0 d mX12_thrown [vR 12 0] h3 (oI fun r6 h5 => ((r6 = r2) → ((¬ r2 = 0) → AW (oa_X nS sc) (d + 1) rb mL_law 3140 [(0, vR 2000 0), (1, vR 11 0), (2, vR 12 0), (3, vR 66 0), (4, vI x4)] [] h5 Qr Qx) ∧ ((r2 = 0) → (((lg_cmp (h5.2.1 66 0 0) r4.toInt64) = 0) → AW (oa_X nS sc) (d + 1) rb mL_law 3140 [(0, vR 2000 0), (1, vR 11 0), (2, vR 12 0), (3, vR 66 0), (4, vI x4)] [] h5 Qr Qx) ∧ ((¬ (lg_cmp (h5.2.1 66 0 0) r4.toInt64) = 0) → Qr (some (vI 0)) h5))) ∧ ((¬ r6 = r2) → Qr (some (vI 0)) h5)) Qx) Qx) Qx) : AW (oa_X nS sc) (d + 1) (rb + 1) mL_law 2180 [(0, vR 2000 0), (1, vR 11 0), (2, vR 12 0), (3, vR 66 0), (4, vI x4)] [] h Qr Qx := by
  refine aw_aload_n (j := 1) (i := 1) dL_law_2180 rfl rfl rfl ?_
  refine aw_aload_n (j := 0) (i := 0) dL_law_2181 rfl rfl rfl ?_
  refine aw_iload (j := 4) (i := 4) dL_law_2182 rfl rfl ?_
  refine aw_iconst (v := 1) dL_law_2184 rfl (by decide) ?_
  refine aw_iadd dL_law_2185 rfl ?_
  refine aw_sldX dL_law_2186 rfl k.1 ?_
  replace k := k.2
  refine aw_aload_n (j := 3) (i := 3) dL_law_2187 rfl rfl rfl ?_
  refine aw_callSH (M' := mL_missingPieces) (S := []) (as := [vR 11 0, vI (sc (x4 + 1).toNatClampNeg), vR 66 0]) (k := 1) dL_law_2188 rfl gh_1354 gh_1355 mb_L_missingPieces rfl (by omega) (Nat.le_of_ble_eq_true rfl) rfl (CLH.imp k (fun _ h1 k => ?_) (fun _ _ k => k))
  obtain ⟨r2, rfl, k⟩ := oI_of k
  show AW (oa_X nS sc) (d + 1) rb mL_law 2191 _ [vI r2] h1 Qr Qx
  refine aw_istore (i := 5) (L2 := [(5, vI r2), (0, vR 2000 0), (1, vR 11 0), (2, vR 12 0), (3, vR 66 0), (4, vI x4)]) dL_law_2191 rfl (by decide) rfl ?_
  refine aw_aload_n (j := 3) (i := 2) dL_law_2193 rfl rfl rfl ?_
  refine aw_aload_n (j := 1) (i := 0) dL_law_2194 rfl rfl rfl ?_
  refine aw_iload (j := 5) (i := 4) dL_law_2195 rfl rfl ?_
  refine aw_iconst (v := 1) dL_law_2197 rfl (by decide) ?_
  refine aw_iadd dL_law_2198 rfl ?_
  refine aw_sldX dL_law_2199 rfl k.1 ?_
  replace k := k.2
  refine aw_callV (M' := mX12_missingPieces) (S := []) (as := [vI (sc (x4 + 1).toNatClampNeg)]) (k := 0) dL_law_2200 rfl (by decide) rfl rfl gh_1975 gh_1976 gh_1977 mb_X12_missingPieces rfl (Nat.zero_le _) (Nat.le_of_ble_eq_true rfl) rfl (CL.imp k (fun _ h3 k => ?_) (fun _ _ k => k))
  obtain ⟨r4, rfl, k⟩ := oI_of k
  show AW (oa_X nS sc) (d + 1) _ mL_law 2203 _ [vI r4] h3 Qr Qx
  refine aw_istore (i := 6) (L2 := [(6, vI r4), (5, vI r2), (0, vR 2000 0), (1, vR 11 0), (2, vR 12 0), (3, vR 66 0), (4, vI x4)]) dL_law_2203 rfl (by decide) rfl ?_
  refine aw_aload_n (j := 4) (i := 2) dL_law_2205 rfl rfl rfl ?_
  refine aw_callV (M' := mX12_thrown) (S := []) (as := []) (k := 0) dL_law_2206 rfl (by decide) rfl rfl gh_1560 gh_1561 gh_1562 mb_X12_thrown rfl (Nat.zero_le _) (Nat.le_of_ble_eq_true rfl) rfl (CL.imp k (fun _ h5 k => ?_) (fun _ _ k => k))
  obtain ⟨r6, rfl, k⟩ := oI_of k
  show AW (oa_X nS sc) (d + 1) _ mL_law 2209 _ [vI r6] h5 Qr Qx
  refine aw_iload (j := 1) (i := 5) dL_law_2209 rfl rfl ?_
  refine aw_icmp_eq 2216 dL_law_2211 rfl rfl (fun c => ?_) (fun c => ?_)
  · replace k := k.1 c
    refine aw_iload (j := 1) (i := 5) dL_law_2216 rfl rfl ?_
    refine aw_if_ne 2233 dL_law_2218 rfl rfl (fun c => ?_) (fun c => ?_)
    · replace k := k.1 c
      refine aw_goto 3140 dL_law_2233 rfl ?_
      exact AW.mono (Nat.le_refl _) (by omega) (aw_sub [2, 3, 4, 5, 6] rfl k)
    · replace k := k.2 c
      refine aw_aload_n (j := 5) (i := 3) dL_law_2221 rfl rfl rfl ?_
      refine aw_iconst (v := 0) dL_law_2222 rfl (by decide) ?_
      refine aw_lald dL_law_2223 rfl (by decide) rfl (by unfold vp_in; decide) ?_
      refine aw_iload (j := 0) (i := 6) dL_law_2224 rfl rfl ?_
      refine aw_i2l dL_law_2226 rfl ?_
      refine aw_lcmp dL_law_2227 rfl ?_
      refine aw_if_eq 2233 dL_law_2228 rfl rfl (fun c => ?_) (fun c => ?_)
      · replace k := k.1 c
        refine aw_goto 3140 dL_law_2233 rfl ?_
        exact AW.mono (Nat.le_refl _) (by omega) (aw_sub [2, 3, 4, 5, 6] rfl k)
      · replace k := k.2 c
        refine aw_iconst (v := 0) dL_law_2231 rfl (by decide) ?_
        exact aw_zret dL_law_2232 rfl (by decide) k
  · replace k := k.2 c
    refine aw_iconst (v := 0) dL_law_2214 rfl (by decide) ?_
    exact aw_zret dL_law_2215 rfl (by decide) k
set_option maxHeartbeats 4000000 in
set_option maxRecDepth 100000 in
theorem vc_L_law_2236 {nS : Nat} {sc : Nat → Int32} {d rb : Nat} {h : Hp} {Qr : Option AV → Hp → Prop} {Qx : String → Hp → Prop} {x4 : Int32} (k : (vp_in (x4 + 1) nS) ∧ (vp_in (x4 + 2) nS) ∧ (vp_in (x4 + 3) nS) ∧ CLH 1 d mL_buildableAfter [vR 11 0, vI (sc (x4 + 1).toNatClampNeg), vI (sc (x4 + 2).toNatClampNeg), vI (sc (x4 + 3).toNatClampNeg), vR 66 0] h (oI fun r2 h1 => (vp_in (x4 + 1) nS) ∧ (vp_in (x4 + 2) nS) ∧ (vp_in (x4 + 3) nS) ∧ CL 0 d mX12_buildableAfter [vR 12 0, vI (sc (x4 + 1).toNatClampNeg), vI (sc (x4 + 2).toNatClampNeg), vI (sc (x4 + 3).toNatClampNeg)] h1 (oI fun r4 h3 => CL 0 d mX12_thrown [vR 12 0] h3 (oI fun r6 h5 => ((r6 = r2) → ((¬ r2 = 0) → AW (oa_X nS sc) (d + 1) rb mL_law 3140 [(0, vR 2000 0), (1, vR 11 0), (2, vR 12 0), (3, vR 66 0), (4, vI x4)] [] h5 Qr Qx) ∧ ((r2 = 0) → (((lg_cmp (h5.2.1 66 0 0) r4.toInt64) = 0) → AW (oa_X nS sc) (d + 1) rb mL_law 3140 [(0, vR 2000 0), (1, vR 11 0), (2, vR 12 0), (3, vR 66 0), (4, vI x4)] [] h5 Qr Qx) ∧ ((¬ (lg_cmp (h5.2.1 66 0 0) r4.toInt64) = 0) → Qr (some (vI 0)) h5))) ∧ ((¬ r6 = r2) → Qr (some (vI 0)) h5)) Qx) Qx) Qx) : AW (oa_X nS sc) (d + 1) (rb + 1) mL_law 2236 [(0, vR 2000 0), (1, vR 11 0), (2, vR 12 0), (3, vR 66 0), (4, vI x4)] [] h Qr Qx := by
  refine aw_aload_n (j := 1) (i := 1) dL_law_2236 rfl rfl rfl ?_
  refine aw_aload_n (j := 0) (i := 0) dL_law_2237 rfl rfl rfl ?_
  refine aw_iload (j := 4) (i := 4) dL_law_2238 rfl rfl ?_
  refine aw_iconst (v := 1) dL_law_2240 rfl (by decide) ?_
  refine aw_iadd dL_law_2241 rfl ?_
  refine aw_sldX dL_law_2242 rfl k.1 ?_
  replace k := k.2
  refine aw_aload_n (j := 0) (i := 0) dL_law_2243 rfl rfl rfl ?_
  refine aw_iload (j := 4) (i := 4) dL_law_2244 rfl rfl ?_
  refine aw_iconst (v := 2) dL_law_2246 rfl (by decide) ?_
  refine aw_iadd dL_law_2247 rfl ?_
  refine aw_sldX dL_law_2248 rfl k.1 ?_
  replace k := k.2
  refine aw_aload_n (j := 0) (i := 0) dL_law_2249 rfl rfl rfl ?_
  refine aw_iload (j := 4) (i := 4) dL_law_2250 rfl rfl ?_
  refine aw_iconst (v := 3) dL_law_2252 rfl (by decide) ?_
  refine aw_iadd dL_law_2253 rfl ?_
  refine aw_sldX dL_law_2254 rfl k.1 ?_
  replace k := k.2
  refine aw_aload_n (j := 3) (i := 3) dL_law_2255 rfl rfl rfl ?_
  refine aw_callSH (M' := mL_buildableAfter) (S := []) (as := [vR 11 0, vI (sc (x4 + 1).toNatClampNeg), vI (sc (x4 + 2).toNatClampNeg), vI (sc (x4 + 3).toNatClampNeg), vR 66 0]) (k := 1) dL_law_2256 rfl gh_1361 gh_1362 mb_L_buildableAfter rfl (by omega) (Nat.le_of_ble_eq_true rfl) rfl (CLH.imp k (fun _ h1 k => ?_) (fun _ _ k => k))
  obtain ⟨r2, rfl, k⟩ := oI_of k
  show AW (oa_X nS sc) (d + 1) rb mL_law 2259 _ [vI r2] h1 Qr Qx
  refine aw_istore (i := 5) (L2 := [(5, vI r2), (0, vR 2000 0), (1, vR 11 0), (2, vR 12 0), (3, vR 66 0), (4, vI x4)]) dL_law_2259 rfl (by decide) rfl ?_
  refine aw_aload_n (j := 3) (i := 2) dL_law_2261 rfl rfl rfl ?_
  refine aw_aload_n (j := 1) (i := 0) dL_law_2262 rfl rfl rfl ?_
  refine aw_iload (j := 5) (i := 4) dL_law_2263 rfl rfl ?_
  refine aw_iconst (v := 1) dL_law_2265 rfl (by decide) ?_
  refine aw_iadd dL_law_2266 rfl ?_
  refine aw_sldX dL_law_2267 rfl k.1 ?_
  replace k := k.2
  refine aw_aload_n (j := 1) (i := 0) dL_law_2268 rfl rfl rfl ?_
  refine aw_iload (j := 5) (i := 4) dL_law_2269 rfl rfl ?_
  refine aw_iconst (v := 2) dL_law_2271 rfl (by decide) ?_
  refine aw_iadd dL_law_2272 rfl ?_
  refine aw_sldX dL_law_2273 rfl k.1 ?_
  replace k := k.2
  refine aw_aload_n (j := 1) (i := 0) dL_law_2274 rfl rfl rfl ?_
  refine aw_iload (j := 5) (i := 4) dL_law_2275 rfl rfl ?_
  refine aw_iconst (v := 3) dL_law_2277 rfl (by decide) ?_
  refine aw_iadd dL_law_2278 rfl ?_
  refine aw_sldX dL_law_2279 rfl k.1 ?_
  replace k := k.2
  refine aw_callV (M' := mX12_buildableAfter) (S := []) (as := [vI (sc (x4 + 1).toNatClampNeg), vI (sc (x4 + 2).toNatClampNeg), vI (sc (x4 + 3).toNatClampNeg)]) (k := 0) dL_law_2280 rfl (by decide) rfl rfl gh_1979 gh_1980 gh_1981 mb_X12_buildableAfter rfl (Nat.zero_le _) (Nat.le_of_ble_eq_true rfl) rfl (CL.imp k (fun _ h3 k => ?_) (fun _ _ k => k))
  obtain ⟨r4, rfl, k⟩ := oI_of k
  show AW (oa_X nS sc) (d + 1) _ mL_law 2283 _ [vI r4] h3 Qr Qx
  refine aw_istore (i := 6) (L2 := [(6, vI r4), (5, vI r2), (0, vR 2000 0), (1, vR 11 0), (2, vR 12 0), (3, vR 66 0), (4, vI x4)]) dL_law_2283 rfl (by decide) rfl ?_
  refine aw_aload_n (j := 4) (i := 2) dL_law_2285 rfl rfl rfl ?_
  refine aw_callV (M' := mX12_thrown) (S := []) (as := []) (k := 0) dL_law_2286 rfl (by decide) rfl rfl gh_1560 gh_1561 gh_1562 mb_X12_thrown rfl (Nat.zero_le _) (Nat.le_of_ble_eq_true rfl) rfl (CL.imp k (fun _ h5 k => ?_) (fun _ _ k => k))
  obtain ⟨r6, rfl, k⟩ := oI_of k
  show AW (oa_X nS sc) (d + 1) _ mL_law 2289 _ [vI r6] h5 Qr Qx
  refine aw_iload (j := 1) (i := 5) dL_law_2289 rfl rfl ?_
  refine aw_icmp_eq 2296 dL_law_2291 rfl rfl (fun c => ?_) (fun c => ?_)
  · replace k := k.1 c
    refine aw_iload (j := 1) (i := 5) dL_law_2296 rfl rfl ?_
    refine aw_if_ne 2313 dL_law_2298 rfl rfl (fun c => ?_) (fun c => ?_)
    · replace k := k.1 c
      refine aw_goto 3140 dL_law_2313 rfl ?_
      exact AW.mono (Nat.le_refl _) (by omega) (aw_sub [2, 3, 4, 5, 6] rfl k)
    · replace k := k.2 c
      refine aw_aload_n (j := 5) (i := 3) dL_law_2301 rfl rfl rfl ?_
      refine aw_iconst (v := 0) dL_law_2302 rfl (by decide) ?_
      refine aw_lald dL_law_2303 rfl (by decide) rfl (by unfold vp_in; decide) ?_
      refine aw_iload (j := 0) (i := 6) dL_law_2304 rfl rfl ?_
      refine aw_i2l dL_law_2306 rfl ?_
      refine aw_lcmp dL_law_2307 rfl ?_
      refine aw_if_eq 2313 dL_law_2308 rfl rfl (fun c => ?_) (fun c => ?_)
      · replace k := k.1 c
        refine aw_goto 3140 dL_law_2313 rfl ?_
        exact AW.mono (Nat.le_refl _) (by omega) (aw_sub [2, 3, 4, 5, 6] rfl k)
      · replace k := k.2 c
        refine aw_iconst (v := 0) dL_law_2311 rfl (by decide) ?_
        exact aw_zret dL_law_2312 rfl (by decide) k
  · replace k := k.2 c
    refine aw_iconst (v := 0) dL_law_2294 rfl (by decide) ?_
    exact aw_zret dL_law_2295 rfl (by decide) k
set_option maxHeartbeats 4000000 in
set_option maxRecDepth 100000 in
theorem vc_L_law_2316 {nS : Nat} {sc : Nat → Int32} {d rb : Nat} {h : Hp} {Qr : Option AV → Hp → Prop} {Qx : String → Hp → Prop} {x4 : Int32} (k : CL 0 d mX11_coveredOrders [vR 11 0] h (oI fun r2 h1 => CL 0 d mX12_coveredOrders [vR 12 0] h1 (oI fun r4 h3 => ((r2 = r4) → AW (oa_X nS sc) (d + 1) rb mL_law 3140 [(0, vR 2000 0), (1, vR 11 0), (2, vR 12 0), (3, vR 66 0), (4, vI x4)] [] h3 Qr Qx) ∧ ((¬ r2 = r4) → Qr (some (vI 0)) h3)) Qx) Qx) : AW (oa_X nS sc) (d + 1) (rb + 1) mL_law 2316 [(0, vR 2000 0), (1, vR 11 0), (2, vR 12 0), (3, vR 66 0), (4, vI x4)] [] h Qr Qx := by
  refine aw_aload_n (j := 1) (i := 1) dL_law_2316 rfl rfl rfl ?_
  refine aw_callV (M' := mX11_coveredOrders) (S := []) (as := []) (k := 0) dL_law_2317 rfl (by decide) rfl rfl gh_565 gh_566 gh_567 mb_X11_coveredOrders rfl (Nat.zero_le _) (Nat.le_of_ble_eq_true rfl) rfl (CL.imp k (fun _ h1 k => ?_) (fun _ _ k => k))
  obtain ⟨r2, rfl, k⟩ := oI_of k
  show AW (oa_X nS sc) (d + 1) _ mL_law 2320 _ [vI r2] h1 Qr Qx
  refine aw_aload_n (j := 2) (i := 2) dL_law_2320 rfl rfl rfl ?_
  refine aw_callV (M' := mX12_coveredOrders) (S := [vI r2]) (as := []) (k := 0) dL_law_2321 rfl (by decide) rfl rfl gh_1983 gh_1984 gh_1985 mb_X12_coveredOrders rfl (Nat.zero_le _) (Nat.le_of_ble_eq_true rfl) rfl (CL.imp k (fun _ h3 k => ?_) (fun _ _ k => k))
  obtain ⟨r4, rfl, k⟩ := oI_of k
  show AW (oa_X nS sc) (d + 1) _ mL_law 2324 _ [vI r4, vI r2] h3 Qr Qx
  refine aw_icmp_eq 3140 dL_law_2324 rfl rfl (fun c => ?_) (fun c => ?_)
  · replace k := k.1 c
    exact AW.mono (Nat.le_refl _) (by omega) (aw_sub [0, 1, 2, 3, 4] rfl k)
  · replace k := k.2 c
    refine aw_iconst (v := 0) dL_law_2327 rfl (by decide) ?_
    exact aw_zret dL_law_2328 rfl (by decide) k
set_option maxHeartbeats 4000000 in
set_option maxRecDepth 100000 in
theorem vc_L_law_2329 {nS : Nat} {sc : Nat → Int32} {d rb : Nat} {h : Hp} {Qr : Option AV → Hp → Prop} {Qx : String → Hp → Prop} {x4 : Int32} (k : CL 0 d mX11_promiseOfAll [vR 11 0] h (oI fun r2 h1 => CL 0 d mX12_promiseOfAll [vR 12 0] h1 (oI fun r4 h3 => ((r2 = r4) → AW (oa_X nS sc) (d + 1) rb mL_law 3140 [(0, vR 2000 0), (1, vR 11 0), (2, vR 12 0), (3, vR 66 0), (4, vI x4)] [] h3 Qr Qx) ∧ ((¬ r2 = r4) → Qr (some (vI 0)) h3)) Qx) Qx) : AW (oa_X nS sc) (d + 1) (rb + 1) mL_law 2329 [(0, vR 2000 0), (1, vR 11 0), (2, vR 12 0), (3, vR 66 0), (4, vI x4)] [] h Qr Qx := by
  refine aw_aload_n (j := 1) (i := 1) dL_law_2329 rfl rfl rfl ?_
  refine aw_callV (M' := mX11_promiseOfAll) (S := []) (as := []) (k := 0) dL_law_2330 rfl (by decide) rfl rfl gh_612 gh_613 gh_614 mb_X11_promiseOfAll rfl (Nat.zero_le _) (Nat.le_of_ble_eq_true rfl) rfl (CL.imp k (fun _ h1 k => ?_) (fun _ _ k => k))
  obtain ⟨r2, rfl, k⟩ := oI_of k
  show AW (oa_X nS sc) (d + 1) _ mL_law 2333 _ [vI r2] h1 Qr Qx
  refine aw_aload_n (j := 2) (i := 2) dL_law_2333 rfl rfl rfl ?_
  refine aw_callV (M' := mX12_promiseOfAll) (S := [vI r2]) (as := []) (k := 0) dL_law_2334 rfl (by decide) rfl rfl gh_1995 gh_1996 gh_1997 mb_X12_promiseOfAll rfl (Nat.zero_le _) (Nat.le_of_ble_eq_true rfl) rfl (CL.imp k (fun _ h3 k => ?_) (fun _ _ k => k))
  obtain ⟨r4, rfl, k⟩ := oI_of k
  show AW (oa_X nS sc) (d + 1) _ mL_law 2337 _ [vI r4, vI r2] h3 Qr Qx
  refine aw_icmp_eq 3140 dL_law_2337 rfl rfl (fun c => ?_) (fun c => ?_)
  · replace k := k.1 c
    exact AW.mono (Nat.le_refl _) (by omega) (aw_sub [0, 1, 2, 3, 4] rfl k)
  · replace k := k.2 c
    refine aw_iconst (v := 0) dL_law_2340 rfl (by decide) ?_
    exact aw_zret dL_law_2341 rfl (by decide) k
set_option maxHeartbeats 4000000 in
set_option maxRecDepth 100000 in
theorem vc_L_law_2342 {nS : Nat} {sc : Nat → Int32} {d rb : Nat} {h : Hp} {Qr : Option AV → Hp → Prop} {Qx : String → Hp → Prop} {x4 : Int32} (k : (vp_in (x4 + 1) nS) ∧ (vp_in (x4 + 2) nS) ∧ (vp_in (x4 + 3) nS) ∧ (vp_in (x4 + 4) nS) ∧ (vp_in (x4 + 5) nS) ∧ CLH 1 d mL_addOrder [vR 11 0, vI (sc (x4 + 1).toNatClampNeg), vI (sc (x4 + 2).toNatClampNeg), vI (sc (x4 + 3).toNatClampNeg), vI (sc (x4 + 4).toNatClampNeg), vI (if (sc (x4 + 5).toNatClampNeg) = 0 then (0 : Int32) else 1), vR 66 0] h (oI fun r2 h1 => (vp_in (x4 + 1) nS) ∧ (vp_in (x4 + 2) nS) ∧ (vp_in (x4 + 3) nS) ∧ (vp_in (x4 + 4) nS) ∧ (vp_in (x4 + 5) nS) ∧ CL 0 d mX12_addOrder [vR 12 0, vI (sc (x4 + 1).toNatClampNeg), vI (sc (x4 + 2).toNatClampNeg), vI (sc (x4 + 3).toNatClampNeg), vI (sc (x4 + 4).toNatClampNeg), vI (if (sc (x4 + 5).toNatClampNeg) = 0 then (0 : Int32) else 1)] h1 (oI fun r4 h3 => CL 0 d mX12_thrown [vR 12 0] h3 (oI fun r6 h5 => ((r6 = r2) → ((¬ r2 = 0) → AW (oa_X nS sc) (d + 1) rb mL_law 3140 [(0, vR 2000 0), (1, vR 11 0), (2, vR 12 0), (3, vR 66 0), (4, vI x4)] [] h5 Qr Qx) ∧ ((r2 = 0) → (((lg_cmp (h5.2.1 66 0 0) r4.toInt64) = 0) → AW (oa_X nS sc) (d + 1) rb mL_law 3140 [(0, vR 2000 0), (1, vR 11 0), (2, vR 12 0), (3, vR 66 0), (4, vI x4)] [] h5 Qr Qx) ∧ ((¬ (lg_cmp (h5.2.1 66 0 0) r4.toInt64) = 0) → Qr (some (vI 0)) h5))) ∧ ((¬ r6 = r2) → Qr (some (vI 0)) h5)) Qx) Qx) Qx) : AW (oa_X nS sc) (d + 1) (rb + 1) mL_law 2342 [(0, vR 2000 0), (1, vR 11 0), (2, vR 12 0), (3, vR 66 0), (4, vI x4)] [] h Qr Qx := by
  refine aw_aload_n (j := 1) (i := 1) dL_law_2342 rfl rfl rfl ?_
  refine aw_aload_n (j := 0) (i := 0) dL_law_2343 rfl rfl rfl ?_
  refine aw_iload (j := 4) (i := 4) dL_law_2344 rfl rfl ?_
  refine aw_iconst (v := 1) dL_law_2346 rfl (by decide) ?_
  refine aw_iadd dL_law_2347 rfl ?_
  refine aw_sldX dL_law_2348 rfl k.1 ?_
  replace k := k.2
  refine aw_aload_n (j := 0) (i := 0) dL_law_2349 rfl rfl rfl ?_
  refine aw_iload (j := 4) (i := 4) dL_law_2350 rfl rfl ?_
  refine aw_iconst (v := 2) dL_law_2352 rfl (by decide) ?_
  refine aw_iadd dL_law_2353 rfl ?_
  refine aw_sldX dL_law_2354 rfl k.1 ?_
  replace k := k.2
  refine aw_aload_n (j := 0) (i := 0) dL_law_2355 rfl rfl rfl ?_
  refine aw_iload (j := 4) (i := 4) dL_law_2356 rfl rfl ?_
  refine aw_iconst (v := 3) dL_law_2358 rfl (by decide) ?_
  refine aw_iadd dL_law_2359 rfl ?_
  refine aw_sldX dL_law_2360 rfl k.1 ?_
  replace k := k.2
  refine aw_aload_n (j := 0) (i := 0) dL_law_2361 rfl rfl rfl ?_
  refine aw_iload (j := 4) (i := 4) dL_law_2362 rfl rfl ?_
  refine aw_iconst (v := 4) dL_law_2364 rfl (by decide) ?_
  refine aw_iadd dL_law_2365 rfl ?_
  refine aw_sldX dL_law_2366 rfl k.1 ?_
  replace k := k.2
  refine aw_aload_n (j := 0) (i := 0) dL_law_2367 rfl rfl rfl ?_
  refine aw_iload (j := 4) (i := 4) dL_law_2368 rfl rfl ?_
  refine aw_iconst (v := 5) dL_law_2370 rfl (by decide) ?_
  refine aw_iadd dL_law_2371 rfl ?_
  refine aw_sldX dL_law_2372 rfl k.1 ?_
  replace k := k.2
  have kk : AW (oa_X nS sc) (d + 1) (rb + 1) mL_law 2381 [(0, vR 2000 0), (1, vR 11 0), (2, vR 12 0), (3, vR 66 0), (4, vI x4)] [vI (if (sc (x4 + 5).toNatClampNeg) = 0 then (0 : Int32) else 1), vI (sc (x4 + 4).toNatClampNeg), vI (sc (x4 + 3).toNatClampNeg), vI (sc (x4 + 2).toNatClampNeg), vI (sc (x4 + 1).toNatClampNeg), vR 11 0] h Qr Qx := by
    refine aw_aload_n (j := 3) (i := 3) dL_law_2381 rfl rfl rfl ?_
    refine aw_callSH (M' := mL_addOrder) (S := []) (as := [vR 11 0, vI (sc (x4 + 1).toNatClampNeg), vI (sc (x4 + 2).toNatClampNeg), vI (sc (x4 + 3).toNatClampNeg), vI (sc (x4 + 4).toNatClampNeg), vI (if (sc (x4 + 5).toNatClampNeg) = 0 then (0 : Int32) else 1), vR 66 0]) (k := 1) dL_law_2382 rfl gh_1369 gh_1370 mb_L_addOrder rfl (by omega) (Nat.le_of_ble_eq_true rfl) rfl (CLH.imp k (fun _ h1 k => ?_) (fun _ _ k => k))
    obtain ⟨r2, rfl, k⟩ := oI_of k
    show AW (oa_X nS sc) (d + 1) rb mL_law 2385 _ [vI r2] h1 Qr Qx
    refine aw_istore (i := 5) (L2 := [(5, vI r2), (0, vR 2000 0), (1, vR 11 0), (2, vR 12 0), (3, vR 66 0), (4, vI x4)]) dL_law_2385 rfl (by decide) rfl ?_
    refine aw_aload_n (j := 3) (i := 2) dL_law_2387 rfl rfl rfl ?_
    refine aw_aload_n (j := 1) (i := 0) dL_law_2388 rfl rfl rfl ?_
    refine aw_iload (j := 5) (i := 4) dL_law_2389 rfl rfl ?_
    refine aw_iconst (v := 1) dL_law_2391 rfl (by decide) ?_
    refine aw_iadd dL_law_2392 rfl ?_
    refine aw_sldX dL_law_2393 rfl k.1 ?_
    replace k := k.2
    refine aw_aload_n (j := 1) (i := 0) dL_law_2394 rfl rfl rfl ?_
    refine aw_iload (j := 5) (i := 4) dL_law_2395 rfl rfl ?_
    refine aw_iconst (v := 2) dL_law_2397 rfl (by decide) ?_
    refine aw_iadd dL_law_2398 rfl ?_
    refine aw_sldX dL_law_2399 rfl k.1 ?_
    replace k := k.2
    refine aw_aload_n (j := 1) (i := 0) dL_law_2400 rfl rfl rfl ?_
    refine aw_iload (j := 5) (i := 4) dL_law_2401 rfl rfl ?_
    refine aw_iconst (v := 3) dL_law_2403 rfl (by decide) ?_
    refine aw_iadd dL_law_2404 rfl ?_
    refine aw_sldX dL_law_2405 rfl k.1 ?_
    replace k := k.2
    refine aw_aload_n (j := 1) (i := 0) dL_law_2406 rfl rfl rfl ?_
    refine aw_iload (j := 5) (i := 4) dL_law_2407 rfl rfl ?_
    refine aw_iconst (v := 4) dL_law_2409 rfl (by decide) ?_
    refine aw_iadd dL_law_2410 rfl ?_
    refine aw_sldX dL_law_2411 rfl k.1 ?_
    replace k := k.2
    refine aw_aload_n (j := 1) (i := 0) dL_law_2412 rfl rfl rfl ?_
    refine aw_iload (j := 5) (i := 4) dL_law_2413 rfl rfl ?_
    refine aw_iconst (v := 5) dL_law_2415 rfl (by decide) ?_
    refine aw_iadd dL_law_2416 rfl ?_
    refine aw_sldX dL_law_2417 rfl k.1 ?_
    replace k := k.2
    have kk : AW (oa_X nS sc) (d + 1) rb mL_law 2426 [(5, vI r2), (0, vR 2000 0), (1, vR 11 0), (2, vR 12 0), (3, vR 66 0), (4, vI x4)] [vI (if (sc (x4 + 5).toNatClampNeg) = 0 then (0 : Int32) else 1), vI (sc (x4 + 4).toNatClampNeg), vI (sc (x4 + 3).toNatClampNeg), vI (sc (x4 + 2).toNatClampNeg), vI (sc (x4 + 1).toNatClampNeg), vR 12 0] h1 Qr Qx := by
      refine aw_callV (M' := mX12_addOrder) (S := []) (as := [vI (sc (x4 + 1).toNatClampNeg), vI (sc (x4 + 2).toNatClampNeg), vI (sc (x4 + 3).toNatClampNeg), vI (sc (x4 + 4).toNatClampNeg), vI (if (sc (x4 + 5).toNatClampNeg) = 0 then (0 : Int32) else 1)]) (k := 0) dL_law_2426 rfl (by decide) rfl rfl gh_1999 gh_2000 gh_2001 mb_X12_addOrder rfl (Nat.zero_le _) (Nat.le_of_ble_eq_true rfl) rfl (CL.imp k (fun _ h3 k => ?_) (fun _ _ k => k))
      obtain ⟨r4, rfl, k⟩ := oI_of k
      show AW (oa_X nS sc) (d + 1) _ mL_law 2429 _ [vI r4] h3 Qr Qx
      refine aw_istore (i := 6) (L2 := [(6, vI r4), (5, vI r2), (0, vR 2000 0), (1, vR 11 0), (2, vR 12 0), (3, vR 66 0), (4, vI x4)]) dL_law_2429 rfl (by decide) rfl ?_
      refine aw_aload_n (j := 4) (i := 2) dL_law_2431 rfl rfl rfl ?_
      refine aw_callV (M' := mX12_thrown) (S := []) (as := []) (k := 0) dL_law_2432 rfl (by decide) rfl rfl gh_1560 gh_1561 gh_1562 mb_X12_thrown rfl (Nat.zero_le _) (Nat.le_of_ble_eq_true rfl) rfl (CL.imp k (fun _ h5 k => ?_) (fun _ _ k => k))
      obtain ⟨r6, rfl, k⟩ := oI_of k
      show AW (oa_X nS sc) (d + 1) _ mL_law 2435 _ [vI r6] h5 Qr Qx
      refine aw_iload (j := 1) (i := 5) dL_law_2435 rfl rfl ?_
      refine aw_icmp_eq 2442 dL_law_2437 rfl rfl (fun c => ?_) (fun c => ?_)
      · replace k := k.1 c
        refine aw_iload (j := 1) (i := 5) dL_law_2442 rfl rfl ?_
        refine aw_if_ne 2459 dL_law_2444 rfl rfl (fun c => ?_) (fun c => ?_)
        · replace k := k.1 c
          refine aw_goto 3140 dL_law_2459 rfl ?_
          exact AW.mono (Nat.le_refl _) (by omega) (aw_sub [2, 3, 4, 5, 6] rfl k)
        · replace k := k.2 c
          refine aw_aload_n (j := 5) (i := 3) dL_law_2447 rfl rfl rfl ?_
          refine aw_iconst (v := 0) dL_law_2448 rfl (by decide) ?_
          refine aw_lald dL_law_2449 rfl (by decide) rfl (by unfold vp_in; decide) ?_
          refine aw_iload (j := 0) (i := 6) dL_law_2450 rfl rfl ?_
          refine aw_i2l dL_law_2452 rfl ?_
          refine aw_lcmp dL_law_2453 rfl ?_
          refine aw_if_eq 2459 dL_law_2454 rfl rfl (fun c => ?_) (fun c => ?_)
          · replace k := k.1 c
            refine aw_goto 3140 dL_law_2459 rfl ?_
            exact AW.mono (Nat.le_refl _) (by omega) (aw_sub [2, 3, 4, 5, 6] rfl k)
          · replace k := k.2 c
            refine aw_iconst (v := 0) dL_law_2457 rfl (by decide) ?_
            exact aw_zret dL_law_2458 rfl (by decide) k
      · replace k := k.2 c
        refine aw_iconst (v := 0) dL_law_2440 rfl (by decide) ?_
        exact aw_zret dL_law_2441 rfl (by decide) k
    refine aw_if_eq 2425 dL_law_2418 rfl rfl (fun (c0 : (sc (x4 + 5).toNatClampNeg) = 0) => ?_) (fun (c0 : ¬ (sc (x4 + 5).toNatClampNeg) = 0) => ?_)
    · refine aw_iconst (v := 0) dL_law_2425 rfl (by decide) ?_
      simp only [if_pos c0] at kk
      exact kk
    · refine aw_iconst (v := 1) dL_law_2421 rfl (by decide) ?_
      refine aw_goto 2426 dL_law_2422 rfl ?_
      simp only [if_neg c0] at kk
      exact kk
  refine aw_if_eq 2380 dL_law_2373 rfl rfl (fun (c0 : (sc (x4 + 5).toNatClampNeg) = 0) => ?_) (fun (c0 : ¬ (sc (x4 + 5).toNatClampNeg) = 0) => ?_)
  · refine aw_iconst (v := 0) dL_law_2380 rfl (by decide) ?_
    simp only [if_pos c0] at kk
    exact kk
  · refine aw_iconst (v := 1) dL_law_2376 rfl (by decide) ?_
    refine aw_goto 2381 dL_law_2377 rfl ?_
    simp only [if_neg c0] at kk
    exact kk
set_option maxHeartbeats 4000000 in
set_option maxRecDepth 100000 in
theorem vc_L_law_2462 {nS : Nat} {sc : Nat → Int32} {d rb : Nat} {h : Hp} {Qr : Option AV → Hp → Prop} {Qx : String → Hp → Prop} {x4 : Int32} (k : (vp_in (x4 + 1) nS) ∧ CLH 1 d mL_cancel [vR 11 0, vI (sc (x4 + 1).toNatClampNeg), vR 66 0] h (oI fun r2 h1 => (vp_in (x4 + 1) nS) ∧ CL 0 d mX12_cancel [vR 12 0, vI (sc (x4 + 1).toNatClampNeg)] h1 (oI fun r4 h3 => CL 0 d mX12_thrown [vR 12 0] h3 (oI fun r6 h5 => ((r6 = r2) → ((¬ r2 = 0) → AW (oa_X nS sc) (d + 1) rb mL_law 3140 [(0, vR 2000 0), (1, vR 11 0), (2, vR 12 0), (3, vR 66 0), (4, vI x4)] [] h5 Qr Qx) ∧ ((r2 = 0) → (((lg_cmp (h5.2.1 66 0 0) r4.toInt64) = 0) → AW (oa_X nS sc) (d + 1) rb mL_law 3140 [(0, vR 2000 0), (1, vR 11 0), (2, vR 12 0), (3, vR 66 0), (4, vI x4)] [] h5 Qr Qx) ∧ ((¬ (lg_cmp (h5.2.1 66 0 0) r4.toInt64) = 0) → Qr (some (vI 0)) h5))) ∧ ((¬ r6 = r2) → Qr (some (vI 0)) h5)) Qx) Qx) Qx) : AW (oa_X nS sc) (d + 1) (rb + 1) mL_law 2462 [(0, vR 2000 0), (1, vR 11 0), (2, vR 12 0), (3, vR 66 0), (4, vI x4)] [] h Qr Qx := by
  refine aw_aload_n (j := 1) (i := 1) dL_law_2462 rfl rfl rfl ?_
  refine aw_aload_n (j := 0) (i := 0) dL_law_2463 rfl rfl rfl ?_
  refine aw_iload (j := 4) (i := 4) dL_law_2464 rfl rfl ?_
  refine aw_iconst (v := 1) dL_law_2466 rfl (by decide) ?_
  refine aw_iadd dL_law_2467 rfl ?_
  refine aw_sldX dL_law_2468 rfl k.1 ?_
  replace k := k.2
  refine aw_aload_n (j := 3) (i := 3) dL_law_2469 rfl rfl rfl ?_
  refine aw_callSH (M' := mL_cancel) (S := []) (as := [vR 11 0, vI (sc (x4 + 1).toNatClampNeg), vR 66 0]) (k := 1) dL_law_2470 rfl gh_1397 gh_1398 mb_L_cancel rfl (by omega) (Nat.le_of_ble_eq_true rfl) rfl (CLH.imp k (fun _ h1 k => ?_) (fun _ _ k => k))
  obtain ⟨r2, rfl, k⟩ := oI_of k
  show AW (oa_X nS sc) (d + 1) rb mL_law 2473 _ [vI r2] h1 Qr Qx
  refine aw_istore (i := 5) (L2 := [(5, vI r2), (0, vR 2000 0), (1, vR 11 0), (2, vR 12 0), (3, vR 66 0), (4, vI x4)]) dL_law_2473 rfl (by decide) rfl ?_
  refine aw_aload_n (j := 3) (i := 2) dL_law_2475 rfl rfl rfl ?_
  refine aw_aload_n (j := 1) (i := 0) dL_law_2476 rfl rfl rfl ?_
  refine aw_iload (j := 5) (i := 4) dL_law_2477 rfl rfl ?_
  refine aw_iconst (v := 1) dL_law_2479 rfl (by decide) ?_
  refine aw_iadd dL_law_2480 rfl ?_
  refine aw_sldX dL_law_2481 rfl k.1 ?_
  replace k := k.2
  refine aw_callV (M' := mX12_cancel) (S := []) (as := [vI (sc (x4 + 1).toNatClampNeg)]) (k := 0) dL_law_2482 rfl (by decide) rfl rfl gh_2007 gh_2008 gh_2009 mb_X12_cancel rfl (Nat.zero_le _) (Nat.le_of_ble_eq_true rfl) rfl (CL.imp k (fun _ h3 k => ?_) (fun _ _ k => k))
  obtain ⟨r4, rfl, k⟩ := oI_of k
  show AW (oa_X nS sc) (d + 1) _ mL_law 2485 _ [vI r4] h3 Qr Qx
  refine aw_istore (i := 6) (L2 := [(6, vI r4), (5, vI r2), (0, vR 2000 0), (1, vR 11 0), (2, vR 12 0), (3, vR 66 0), (4, vI x4)]) dL_law_2485 rfl (by decide) rfl ?_
  refine aw_aload_n (j := 4) (i := 2) dL_law_2487 rfl rfl rfl ?_
  refine aw_callV (M' := mX12_thrown) (S := []) (as := []) (k := 0) dL_law_2488 rfl (by decide) rfl rfl gh_1560 gh_1561 gh_1562 mb_X12_thrown rfl (Nat.zero_le _) (Nat.le_of_ble_eq_true rfl) rfl (CL.imp k (fun _ h5 k => ?_) (fun _ _ k => k))
  obtain ⟨r6, rfl, k⟩ := oI_of k
  show AW (oa_X nS sc) (d + 1) _ mL_law 2491 _ [vI r6] h5 Qr Qx
  refine aw_iload (j := 1) (i := 5) dL_law_2491 rfl rfl ?_
  refine aw_icmp_eq 2498 dL_law_2493 rfl rfl (fun c => ?_) (fun c => ?_)
  · replace k := k.1 c
    refine aw_iload (j := 1) (i := 5) dL_law_2498 rfl rfl ?_
    refine aw_if_ne 2515 dL_law_2500 rfl rfl (fun c => ?_) (fun c => ?_)
    · replace k := k.1 c
      refine aw_goto 3140 dL_law_2515 rfl ?_
      exact AW.mono (Nat.le_refl _) (by omega) (aw_sub [2, 3, 4, 5, 6] rfl k)
    · replace k := k.2 c
      refine aw_aload_n (j := 5) (i := 3) dL_law_2503 rfl rfl rfl ?_
      refine aw_iconst (v := 0) dL_law_2504 rfl (by decide) ?_
      refine aw_lald dL_law_2505 rfl (by decide) rfl (by unfold vp_in; decide) ?_
      refine aw_iload (j := 0) (i := 6) dL_law_2506 rfl rfl ?_
      refine aw_i2l dL_law_2508 rfl ?_
      refine aw_lcmp dL_law_2509 rfl ?_
      refine aw_if_eq 2515 dL_law_2510 rfl rfl (fun c => ?_) (fun c => ?_)
      · replace k := k.1 c
        refine aw_goto 3140 dL_law_2515 rfl ?_
        exact AW.mono (Nat.le_refl _) (by omega) (aw_sub [2, 3, 4, 5, 6] rfl k)
      · replace k := k.2 c
        refine aw_iconst (v := 0) dL_law_2513 rfl (by decide) ?_
        exact aw_zret dL_law_2514 rfl (by decide) k
  · replace k := k.2 c
    refine aw_iconst (v := 0) dL_law_2496 rfl (by decide) ?_
    exact aw_zret dL_law_2497 rfl (by decide) k
set_option maxHeartbeats 4000000 in
set_option maxRecDepth 100000 in
theorem vc_L_law_2518 {nS : Nat} {sc : Nat → Int32} {d rb : Nat} {h : Hp} {Qr : Option AV → Hp → Prop} {Qx : String → Hp → Prop} {x4 : Int32} (k : (vp_in (x4 + 1) nS) ∧ (vp_in (x4 + 2) nS) ∧ CLH 1 d mL_reserve [vR 11 0, vI (sc (x4 + 1).toNatClampNeg), vI (sc (x4 + 2).toNatClampNeg), vR 66 0] h (oI fun r2 h1 => (vp_in (x4 + 1) nS) ∧ (vp_in (x4 + 2) nS) ∧ CL 0 d mX12_reserve [vR 12 0, vI (sc (x4 + 1).toNatClampNeg), vI (sc (x4 + 2).toNatClampNeg)] h1 (oI fun r4 h3 => CL 0 d mX12_thrown [vR 12 0] h3 (oI fun r6 h5 => ((r6 = r2) → ((¬ r2 = 0) → AW (oa_X nS sc) (d + 1) rb mL_law 3140 [(0, vR 2000 0), (1, vR 11 0), (2, vR 12 0), (3, vR 66 0), (4, vI x4)] [] h5 Qr Qx) ∧ ((r2 = 0) → (((lg_cmp (h5.2.1 66 0 0) r4.toInt64) = 0) → AW (oa_X nS sc) (d + 1) rb mL_law 3140 [(0, vR 2000 0), (1, vR 11 0), (2, vR 12 0), (3, vR 66 0), (4, vI x4)] [] h5 Qr Qx) ∧ ((¬ (lg_cmp (h5.2.1 66 0 0) r4.toInt64) = 0) → Qr (some (vI 0)) h5))) ∧ ((¬ r6 = r2) → Qr (some (vI 0)) h5)) Qx) Qx) Qx) : AW (oa_X nS sc) (d + 1) (rb + 1) mL_law 2518 [(0, vR 2000 0), (1, vR 11 0), (2, vR 12 0), (3, vR 66 0), (4, vI x4)] [] h Qr Qx := by
  refine aw_aload_n (j := 1) (i := 1) dL_law_2518 rfl rfl rfl ?_
  refine aw_aload_n (j := 0) (i := 0) dL_law_2519 rfl rfl rfl ?_
  refine aw_iload (j := 4) (i := 4) dL_law_2520 rfl rfl ?_
  refine aw_iconst (v := 1) dL_law_2522 rfl (by decide) ?_
  refine aw_iadd dL_law_2523 rfl ?_
  refine aw_sldX dL_law_2524 rfl k.1 ?_
  replace k := k.2
  refine aw_aload_n (j := 0) (i := 0) dL_law_2525 rfl rfl rfl ?_
  refine aw_iload (j := 4) (i := 4) dL_law_2526 rfl rfl ?_
  refine aw_iconst (v := 2) dL_law_2528 rfl (by decide) ?_
  refine aw_iadd dL_law_2529 rfl ?_
  refine aw_sldX dL_law_2530 rfl k.1 ?_
  replace k := k.2
  refine aw_aload_n (j := 3) (i := 3) dL_law_2531 rfl rfl rfl ?_
  refine aw_callSH (M' := mL_reserve) (S := []) (as := [vR 11 0, vI (sc (x4 + 1).toNatClampNeg), vI (sc (x4 + 2).toNatClampNeg), vR 66 0]) (k := 1) dL_law_2532 rfl gh_1408 gh_1409 mb_L_reserve rfl (by omega) (Nat.le_of_ble_eq_true rfl) rfl (CLH.imp k (fun _ h1 k => ?_) (fun _ _ k => k))
  obtain ⟨r2, rfl, k⟩ := oI_of k
  show AW (oa_X nS sc) (d + 1) rb mL_law 2535 _ [vI r2] h1 Qr Qx
  refine aw_istore (i := 5) (L2 := [(5, vI r2), (0, vR 2000 0), (1, vR 11 0), (2, vR 12 0), (3, vR 66 0), (4, vI x4)]) dL_law_2535 rfl (by decide) rfl ?_
  refine aw_aload_n (j := 3) (i := 2) dL_law_2537 rfl rfl rfl ?_
  refine aw_aload_n (j := 1) (i := 0) dL_law_2538 rfl rfl rfl ?_
  refine aw_iload (j := 5) (i := 4) dL_law_2539 rfl rfl ?_
  refine aw_iconst (v := 1) dL_law_2541 rfl (by decide) ?_
  refine aw_iadd dL_law_2542 rfl ?_
  refine aw_sldX dL_law_2543 rfl k.1 ?_
  replace k := k.2
  refine aw_aload_n (j := 1) (i := 0) dL_law_2544 rfl rfl rfl ?_
  refine aw_iload (j := 5) (i := 4) dL_law_2545 rfl rfl ?_
  refine aw_iconst (v := 2) dL_law_2547 rfl (by decide) ?_
  refine aw_iadd dL_law_2548 rfl ?_
  refine aw_sldX dL_law_2549 rfl k.1 ?_
  replace k := k.2
  refine aw_callV (M' := mX12_reserve) (S := []) (as := [vI (sc (x4 + 1).toNatClampNeg), vI (sc (x4 + 2).toNatClampNeg)]) (k := 0) dL_law_2550 rfl (by decide) rfl rfl gh_2019 gh_2020 gh_2021 mb_X12_reserve rfl (Nat.zero_le _) (Nat.le_of_ble_eq_true rfl) rfl (CL.imp k (fun _ h3 k => ?_) (fun _ _ k => k))
  obtain ⟨r4, rfl, k⟩ := oI_of k
  show AW (oa_X nS sc) (d + 1) _ mL_law 2553 _ [vI r4] h3 Qr Qx
  refine aw_istore (i := 6) (L2 := [(6, vI r4), (5, vI r2), (0, vR 2000 0), (1, vR 11 0), (2, vR 12 0), (3, vR 66 0), (4, vI x4)]) dL_law_2553 rfl (by decide) rfl ?_
  refine aw_aload_n (j := 4) (i := 2) dL_law_2555 rfl rfl rfl ?_
  refine aw_callV (M' := mX12_thrown) (S := []) (as := []) (k := 0) dL_law_2556 rfl (by decide) rfl rfl gh_1560 gh_1561 gh_1562 mb_X12_thrown rfl (Nat.zero_le _) (Nat.le_of_ble_eq_true rfl) rfl (CL.imp k (fun _ h5 k => ?_) (fun _ _ k => k))
  obtain ⟨r6, rfl, k⟩ := oI_of k
  show AW (oa_X nS sc) (d + 1) _ mL_law 2559 _ [vI r6] h5 Qr Qx
  refine aw_iload (j := 1) (i := 5) dL_law_2559 rfl rfl ?_
  refine aw_icmp_eq 2566 dL_law_2561 rfl rfl (fun c => ?_) (fun c => ?_)
  · replace k := k.1 c
    refine aw_iload (j := 1) (i := 5) dL_law_2566 rfl rfl ?_
    refine aw_if_ne 2583 dL_law_2568 rfl rfl (fun c => ?_) (fun c => ?_)
    · replace k := k.1 c
      refine aw_goto 3140 dL_law_2583 rfl ?_
      exact AW.mono (Nat.le_refl _) (by omega) (aw_sub [2, 3, 4, 5, 6] rfl k)
    · replace k := k.2 c
      refine aw_aload_n (j := 5) (i := 3) dL_law_2571 rfl rfl rfl ?_
      refine aw_iconst (v := 0) dL_law_2572 rfl (by decide) ?_
      refine aw_lald dL_law_2573 rfl (by decide) rfl (by unfold vp_in; decide) ?_
      refine aw_iload (j := 0) (i := 6) dL_law_2574 rfl rfl ?_
      refine aw_i2l dL_law_2576 rfl ?_
      refine aw_lcmp dL_law_2577 rfl ?_
      refine aw_if_eq 2583 dL_law_2578 rfl rfl (fun c => ?_) (fun c => ?_)
      · replace k := k.1 c
        refine aw_goto 3140 dL_law_2583 rfl ?_
        exact AW.mono (Nat.le_refl _) (by omega) (aw_sub [2, 3, 4, 5, 6] rfl k)
      · replace k := k.2 c
        refine aw_iconst (v := 0) dL_law_2581 rfl (by decide) ?_
        exact aw_zret dL_law_2582 rfl (by decide) k
  · replace k := k.2 c
    refine aw_iconst (v := 0) dL_law_2564 rfl (by decide) ?_
    exact aw_zret dL_law_2565 rfl (by decide) k
set_option maxHeartbeats 4000000 in
set_option maxRecDepth 100000 in
theorem vc_L_law_2586 {nS : Nat} {sc : Nat → Int32} {d rb : Nat} {h : Hp} {Qr : Option AV → Hp → Prop} {Qx : String → Hp → Prop} {x4 : Int32} (k : (vp_in (x4 + 1) nS) ∧ (vp_in (x4 + 2) nS) ∧ CLH 1 d mL_release [vR 11 0, vI (sc (x4 + 1).toNatClampNeg), vI (sc (x4 + 2).toNatClampNeg), vR 66 0] h (oI fun r2 h1 => (vp_in (x4 + 1) nS) ∧ (vp_in (x4 + 2) nS) ∧ CL 0 d mX12_release [vR 12 0, vI (sc (x4 + 1).toNatClampNeg), vI (sc (x4 + 2).toNatClampNeg)] h1 (oI fun r4 h3 => CL 0 d mX12_thrown [vR 12 0] h3 (oI fun r6 h5 => ((r6 = r2) → ((¬ r2 = 0) → AW (oa_X nS sc) (d + 1) rb mL_law 3140 [(0, vR 2000 0), (1, vR 11 0), (2, vR 12 0), (3, vR 66 0), (4, vI x4)] [] h5 Qr Qx) ∧ ((r2 = 0) → (((lg_cmp (h5.2.1 66 0 0) r4.toInt64) = 0) → AW (oa_X nS sc) (d + 1) rb mL_law 3140 [(0, vR 2000 0), (1, vR 11 0), (2, vR 12 0), (3, vR 66 0), (4, vI x4)] [] h5 Qr Qx) ∧ ((¬ (lg_cmp (h5.2.1 66 0 0) r4.toInt64) = 0) → Qr (some (vI 0)) h5))) ∧ ((¬ r6 = r2) → Qr (some (vI 0)) h5)) Qx) Qx) Qx) : AW (oa_X nS sc) (d + 1) (rb + 1) mL_law 2586 [(0, vR 2000 0), (1, vR 11 0), (2, vR 12 0), (3, vR 66 0), (4, vI x4)] [] h Qr Qx := by
  refine aw_aload_n (j := 1) (i := 1) dL_law_2586 rfl rfl rfl ?_
  refine aw_aload_n (j := 0) (i := 0) dL_law_2587 rfl rfl rfl ?_
  refine aw_iload (j := 4) (i := 4) dL_law_2588 rfl rfl ?_
  refine aw_iconst (v := 1) dL_law_2590 rfl (by decide) ?_
  refine aw_iadd dL_law_2591 rfl ?_
  refine aw_sldX dL_law_2592 rfl k.1 ?_
  replace k := k.2
  refine aw_aload_n (j := 0) (i := 0) dL_law_2593 rfl rfl rfl ?_
  refine aw_iload (j := 4) (i := 4) dL_law_2594 rfl rfl ?_
  refine aw_iconst (v := 2) dL_law_2596 rfl (by decide) ?_
  refine aw_iadd dL_law_2597 rfl ?_
  refine aw_sldX dL_law_2598 rfl k.1 ?_
  replace k := k.2
  refine aw_aload_n (j := 3) (i := 3) dL_law_2599 rfl rfl rfl ?_
  refine aw_callSH (M' := mL_release) (S := []) (as := [vR 11 0, vI (sc (x4 + 1).toNatClampNeg), vI (sc (x4 + 2).toNatClampNeg), vR 66 0]) (k := 1) dL_law_2600 rfl gh_1421 gh_1422 mb_L_release rfl (by omega) (Nat.le_of_ble_eq_true rfl) rfl (CLH.imp k (fun _ h1 k => ?_) (fun _ _ k => k))
  obtain ⟨r2, rfl, k⟩ := oI_of k
  show AW (oa_X nS sc) (d + 1) rb mL_law 2603 _ [vI r2] h1 Qr Qx
  refine aw_istore (i := 5) (L2 := [(5, vI r2), (0, vR 2000 0), (1, vR 11 0), (2, vR 12 0), (3, vR 66 0), (4, vI x4)]) dL_law_2603 rfl (by decide) rfl ?_
  refine aw_aload_n (j := 3) (i := 2) dL_law_2605 rfl rfl rfl ?_
  refine aw_aload_n (j := 1) (i := 0) dL_law_2606 rfl rfl rfl ?_
  refine aw_iload (j := 5) (i := 4) dL_law_2607 rfl rfl ?_
  refine aw_iconst (v := 1) dL_law_2609 rfl (by decide) ?_
  refine aw_iadd dL_law_2610 rfl ?_
  refine aw_sldX dL_law_2611 rfl k.1 ?_
  replace k := k.2
  refine aw_aload_n (j := 1) (i := 0) dL_law_2612 rfl rfl rfl ?_
  refine aw_iload (j := 5) (i := 4) dL_law_2613 rfl rfl ?_
  refine aw_iconst (v := 2) dL_law_2615 rfl (by decide) ?_
  refine aw_iadd dL_law_2616 rfl ?_
  refine aw_sldX dL_law_2617 rfl k.1 ?_
  replace k := k.2
  refine aw_callV (M' := mX12_release) (S := []) (as := [vI (sc (x4 + 1).toNatClampNeg), vI (sc (x4 + 2).toNatClampNeg)]) (k := 0) dL_law_2618 rfl (by decide) rfl rfl gh_2031 gh_2032 gh_2033 mb_X12_release rfl (Nat.zero_le _) (Nat.le_of_ble_eq_true rfl) rfl (CL.imp k (fun _ h3 k => ?_) (fun _ _ k => k))
  obtain ⟨r4, rfl, k⟩ := oI_of k
  show AW (oa_X nS sc) (d + 1) _ mL_law 2621 _ [vI r4] h3 Qr Qx
  refine aw_istore (i := 6) (L2 := [(6, vI r4), (5, vI r2), (0, vR 2000 0), (1, vR 11 0), (2, vR 12 0), (3, vR 66 0), (4, vI x4)]) dL_law_2621 rfl (by decide) rfl ?_
  refine aw_aload_n (j := 4) (i := 2) dL_law_2623 rfl rfl rfl ?_
  refine aw_callV (M' := mX12_thrown) (S := []) (as := []) (k := 0) dL_law_2624 rfl (by decide) rfl rfl gh_1560 gh_1561 gh_1562 mb_X12_thrown rfl (Nat.zero_le _) (Nat.le_of_ble_eq_true rfl) rfl (CL.imp k (fun _ h5 k => ?_) (fun _ _ k => k))
  obtain ⟨r6, rfl, k⟩ := oI_of k
  show AW (oa_X nS sc) (d + 1) _ mL_law 2627 _ [vI r6] h5 Qr Qx
  refine aw_iload (j := 1) (i := 5) dL_law_2627 rfl rfl ?_
  refine aw_icmp_eq 2634 dL_law_2629 rfl rfl (fun c => ?_) (fun c => ?_)
  · replace k := k.1 c
    refine aw_iload (j := 1) (i := 5) dL_law_2634 rfl rfl ?_
    refine aw_if_ne 2651 dL_law_2636 rfl rfl (fun c => ?_) (fun c => ?_)
    · replace k := k.1 c
      refine aw_goto 3140 dL_law_2651 rfl ?_
      exact AW.mono (Nat.le_refl _) (by omega) (aw_sub [2, 3, 4, 5, 6] rfl k)
    · replace k := k.2 c
      refine aw_aload_n (j := 5) (i := 3) dL_law_2639 rfl rfl rfl ?_
      refine aw_iconst (v := 0) dL_law_2640 rfl (by decide) ?_
      refine aw_lald dL_law_2641 rfl (by decide) rfl (by unfold vp_in; decide) ?_
      refine aw_iload (j := 0) (i := 6) dL_law_2642 rfl rfl ?_
      refine aw_i2l dL_law_2644 rfl ?_
      refine aw_lcmp dL_law_2645 rfl ?_
      refine aw_if_eq 2651 dL_law_2646 rfl rfl (fun c => ?_) (fun c => ?_)
      · replace k := k.1 c
        refine aw_goto 3140 dL_law_2651 rfl ?_
        exact AW.mono (Nat.le_refl _) (by omega) (aw_sub [2, 3, 4, 5, 6] rfl k)
      · replace k := k.2 c
        refine aw_iconst (v := 0) dL_law_2649 rfl (by decide) ?_
        exact aw_zret dL_law_2650 rfl (by decide) k
  · replace k := k.2 c
    refine aw_iconst (v := 0) dL_law_2632 rfl (by decide) ?_
    exact aw_zret dL_law_2633 rfl (by decide) k
set_option maxHeartbeats 4000000 in
set_option maxRecDepth 100000 in
theorem vc_L_law_2654 {nS : Nat} {sc : Nat → Int32} {d rb : Nat} {h : Hp} {Qr : Option AV → Hp → Prop} {Qx : String → Hp → Prop} {x4 : Int32} (k : CL 0 d mX11_allocate [vR 11 0] h (oI fun r2 h1 => CL 0 d mX12_allocate [vR 12 0] h1 (oI fun r4 h3 => ((r2 = r4) → AW (oa_X nS sc) (d + 1) rb mL_law 3140 [(0, vR 2000 0), (1, vR 11 0), (2, vR 12 0), (3, vR 66 0), (4, vI x4)] [] h3 Qr Qx) ∧ ((¬ r2 = r4) → Qr (some (vI 0)) h3)) Qx) Qx) : AW (oa_X nS sc) (d + 1) (rb + 1) mL_law 2654 [(0, vR 2000 0), (1, vR 11 0), (2, vR 12 0), (3, vR 66 0), (4, vI x4)] [] h Qr Qx := by
  refine aw_aload_n (j := 1) (i := 1) dL_law_2654 rfl rfl rfl ?_
  refine aw_callV (M' := mX11_allocate) (S := []) (as := []) (k := 0) dL_law_2655 rfl (by decide) rfl rfl gh_616 gh_617 gh_618 mb_X11_allocate rfl (Nat.zero_le _) (Nat.le_of_ble_eq_true rfl) rfl (CL.imp k (fun _ h1 k => ?_) (fun _ _ k => k))
  obtain ⟨r2, rfl, k⟩ := oI_of k
  show AW (oa_X nS sc) (d + 1) _ mL_law 2658 _ [vI r2] h1 Qr Qx
  refine aw_aload_n (j := 2) (i := 2) dL_law_2658 rfl rfl rfl ?_
  refine aw_callV (M' := mX12_allocate) (S := [vI r2]) (as := []) (k := 0) dL_law_2659 rfl (by decide) rfl rfl gh_2035 gh_2036 gh_2037 mb_X12_allocate rfl (Nat.zero_le _) (Nat.le_of_ble_eq_true rfl) rfl (CL.imp k (fun _ h3 k => ?_) (fun _ _ k => k))
  obtain ⟨r4, rfl, k⟩ := oI_of k
  show AW (oa_X nS sc) (d + 1) _ mL_law 2662 _ [vI r4, vI r2] h3 Qr Qx
  refine aw_icmp_eq 3140 dL_law_2662 rfl rfl (fun c => ?_) (fun c => ?_)
  · replace k := k.1 c
    exact AW.mono (Nat.le_refl _) (by omega) (aw_sub [0, 1, 2, 3, 4] rfl k)
  · replace k := k.2 c
    refine aw_iconst (v := 0) dL_law_2665 rfl (by decide) ?_
    exact aw_zret dL_law_2666 rfl (by decide) k
set_option maxHeartbeats 4000000 in
set_option maxRecDepth 100000 in
theorem vc_L_law_2667 {nS : Nat} {sc : Nat → Int32} {d rb : Nat} {h : Hp} {Qr : Option AV → Hp → Prop} {Qx : String → Hp → Prop} {x4 : Int32} (k : (vp_in (x4 + 1) nS) ∧ CLH 1 d mL_ship [vR 11 0, vI (sc (x4 + 1).toNatClampNeg), vR 66 0] h (oI fun r2 h1 => (vp_in (x4 + 1) nS) ∧ CL 0 d mX12_ship [vR 12 0, vI (sc (x4 + 1).toNatClampNeg)] h1 (oI fun r4 h3 => CL 0 d mX12_thrown [vR 12 0] h3 (oI fun r6 h5 => ((r6 = r2) → ((¬ r2 = 0) → AW (oa_X nS sc) (d + 1) rb mL_law 3140 [(0, vR 2000 0), (1, vR 11 0), (2, vR 12 0), (3, vR 66 0), (4, vI x4)] [] h5 Qr Qx) ∧ ((r2 = 0) → (((lg_cmp (h5.2.1 66 0 0) r4.toInt64) = 0) → AW (oa_X nS sc) (d + 1) rb mL_law 3140 [(0, vR 2000 0), (1, vR 11 0), (2, vR 12 0), (3, vR 66 0), (4, vI x4)] [] h5 Qr Qx) ∧ ((¬ (lg_cmp (h5.2.1 66 0 0) r4.toInt64) = 0) → Qr (some (vI 0)) h5))) ∧ ((¬ r6 = r2) → Qr (some (vI 0)) h5)) Qx) Qx) Qx) : AW (oa_X nS sc) (d + 1) (rb + 1) mL_law 2667 [(0, vR 2000 0), (1, vR 11 0), (2, vR 12 0), (3, vR 66 0), (4, vI x4)] [] h Qr Qx := by
  refine aw_aload_n (j := 1) (i := 1) dL_law_2667 rfl rfl rfl ?_
  refine aw_aload_n (j := 0) (i := 0) dL_law_2668 rfl rfl rfl ?_
  refine aw_iload (j := 4) (i := 4) dL_law_2669 rfl rfl ?_
  refine aw_iconst (v := 1) dL_law_2671 rfl (by decide) ?_
  refine aw_iadd dL_law_2672 rfl ?_
  refine aw_sldX dL_law_2673 rfl k.1 ?_
  replace k := k.2
  refine aw_aload_n (j := 3) (i := 3) dL_law_2674 rfl rfl rfl ?_
  refine aw_callSH (M' := mL_ship) (S := []) (as := [vR 11 0, vI (sc (x4 + 1).toNatClampNeg), vR 66 0]) (k := 1) dL_law_2675 rfl gh_1428 gh_1429 mb_L_ship rfl (by omega) (Nat.le_of_ble_eq_true rfl) rfl (CLH.imp k (fun _ h1 k => ?_) (fun _ _ k => k))
  obtain ⟨r2, rfl, k⟩ := oI_of k
  show AW (oa_X nS sc) (d + 1) rb mL_law 2678 _ [vI r2] h1 Qr Qx
  refine aw_istore (i := 5) (L2 := [(5, vI r2), (0, vR 2000 0), (1, vR 11 0), (2, vR 12 0), (3, vR 66 0), (4, vI x4)]) dL_law_2678 rfl (by decide) rfl ?_
  refine aw_aload_n (j := 3) (i := 2) dL_law_2680 rfl rfl rfl ?_
  refine aw_aload_n (j := 1) (i := 0) dL_law_2681 rfl rfl rfl ?_
  refine aw_iload (j := 5) (i := 4) dL_law_2682 rfl rfl ?_
  refine aw_iconst (v := 1) dL_law_2684 rfl (by decide) ?_
  refine aw_iadd dL_law_2685 rfl ?_
  refine aw_sldX dL_law_2686 rfl k.1 ?_
  replace k := k.2
  refine aw_callV (M' := mX12_ship) (S := []) (as := [vI (sc (x4 + 1).toNatClampNeg)]) (k := 0) dL_law_2687 rfl (by decide) rfl rfl gh_2039 gh_2040 gh_2041 mb_X12_ship rfl (Nat.zero_le _) (Nat.le_of_ble_eq_true rfl) rfl (CL.imp k (fun _ h3 k => ?_) (fun _ _ k => k))
  obtain ⟨r4, rfl, k⟩ := oI_of k
  show AW (oa_X nS sc) (d + 1) _ mL_law 2690 _ [vI r4] h3 Qr Qx
  refine aw_istore (i := 6) (L2 := [(6, vI r4), (5, vI r2), (0, vR 2000 0), (1, vR 11 0), (2, vR 12 0), (3, vR 66 0), (4, vI x4)]) dL_law_2690 rfl (by decide) rfl ?_
  refine aw_aload_n (j := 4) (i := 2) dL_law_2692 rfl rfl rfl ?_
  refine aw_callV (M' := mX12_thrown) (S := []) (as := []) (k := 0) dL_law_2693 rfl (by decide) rfl rfl gh_1560 gh_1561 gh_1562 mb_X12_thrown rfl (Nat.zero_le _) (Nat.le_of_ble_eq_true rfl) rfl (CL.imp k (fun _ h5 k => ?_) (fun _ _ k => k))
  obtain ⟨r6, rfl, k⟩ := oI_of k
  show AW (oa_X nS sc) (d + 1) _ mL_law 2696 _ [vI r6] h5 Qr Qx
  refine aw_iload (j := 1) (i := 5) dL_law_2696 rfl rfl ?_
  refine aw_icmp_eq 2703 dL_law_2698 rfl rfl (fun c => ?_) (fun c => ?_)
  · replace k := k.1 c
    refine aw_iload (j := 1) (i := 5) dL_law_2703 rfl rfl ?_
    refine aw_if_ne 2720 dL_law_2705 rfl rfl (fun c => ?_) (fun c => ?_)
    · replace k := k.1 c
      refine aw_goto 3140 dL_law_2720 rfl ?_
      exact AW.mono (Nat.le_refl _) (by omega) (aw_sub [2, 3, 4, 5, 6] rfl k)
    · replace k := k.2 c
      refine aw_aload_n (j := 5) (i := 3) dL_law_2708 rfl rfl rfl ?_
      refine aw_iconst (v := 0) dL_law_2709 rfl (by decide) ?_
      refine aw_lald dL_law_2710 rfl (by decide) rfl (by unfold vp_in; decide) ?_
      refine aw_iload (j := 0) (i := 6) dL_law_2711 rfl rfl ?_
      refine aw_i2l dL_law_2713 rfl ?_
      refine aw_lcmp dL_law_2714 rfl ?_
      refine aw_if_eq 2720 dL_law_2715 rfl rfl (fun c => ?_) (fun c => ?_)
      · replace k := k.1 c
        refine aw_goto 3140 dL_law_2720 rfl ?_
        exact AW.mono (Nat.le_refl _) (by omega) (aw_sub [2, 3, 4, 5, 6] rfl k)
      · replace k := k.2 c
        refine aw_iconst (v := 0) dL_law_2718 rfl (by decide) ?_
        exact aw_zret dL_law_2719 rfl (by decide) k
  · replace k := k.2 c
    refine aw_iconst (v := 0) dL_law_2701 rfl (by decide) ?_
    exact aw_zret dL_law_2702 rfl (by decide) k
set_option maxHeartbeats 4000000 in
set_option maxRecDepth 100000 in
theorem vc_L_law_2723 {nS : Nat} {sc : Nat → Int32} {d rb : Nat} {h : Hp} {Qr : Option AV → Hp → Prop} {Qx : String → Hp → Prop} {x4 : Int32} (k : (vp_in (x4 + 1) nS) ∧ (vp_in (x4 + 2) nS) ∧ CLH 1 d mL_buy [vR 11 0, vI (sc (x4 + 1).toNatClampNeg), vI (sc (x4 + 2).toNatClampNeg), vR 66 0] h (oI fun r2 h1 => (vp_in (x4 + 1) nS) ∧ (vp_in (x4 + 2) nS) ∧ CL 0 d mX12_buy [vR 12 0, vI (sc (x4 + 1).toNatClampNeg), vI (sc (x4 + 2).toNatClampNeg)] h1 (oI fun r4 h3 => CL 0 d mX12_thrown [vR 12 0] h3 (oI fun r6 h5 => ((r6 = r2) → ((¬ r2 = 0) → AW (oa_X nS sc) (d + 1) rb mL_law 3140 [(0, vR 2000 0), (1, vR 11 0), (2, vR 12 0), (3, vR 66 0), (4, vI x4)] [] h5 Qr Qx) ∧ ((r2 = 0) → (((lg_cmp (h5.2.1 66 0 0) r4.toInt64) = 0) → AW (oa_X nS sc) (d + 1) rb mL_law 3140 [(0, vR 2000 0), (1, vR 11 0), (2, vR 12 0), (3, vR 66 0), (4, vI x4)] [] h5 Qr Qx) ∧ ((¬ (lg_cmp (h5.2.1 66 0 0) r4.toInt64) = 0) → Qr (some (vI 0)) h5))) ∧ ((¬ r6 = r2) → Qr (some (vI 0)) h5)) Qx) Qx) Qx) : AW (oa_X nS sc) (d + 1) (rb + 1) mL_law 2723 [(0, vR 2000 0), (1, vR 11 0), (2, vR 12 0), (3, vR 66 0), (4, vI x4)] [] h Qr Qx := by
  refine aw_aload_n (j := 1) (i := 1) dL_law_2723 rfl rfl rfl ?_
  refine aw_aload_n (j := 0) (i := 0) dL_law_2724 rfl rfl rfl ?_
  refine aw_iload (j := 4) (i := 4) dL_law_2725 rfl rfl ?_
  refine aw_iconst (v := 1) dL_law_2727 rfl (by decide) ?_
  refine aw_iadd dL_law_2728 rfl ?_
  refine aw_sldX dL_law_2729 rfl k.1 ?_
  replace k := k.2
  refine aw_aload_n (j := 0) (i := 0) dL_law_2730 rfl rfl rfl ?_
  refine aw_iload (j := 4) (i := 4) dL_law_2731 rfl rfl ?_
  refine aw_iconst (v := 2) dL_law_2733 rfl (by decide) ?_
  refine aw_iadd dL_law_2734 rfl ?_
  refine aw_sldX dL_law_2735 rfl k.1 ?_
  replace k := k.2
  refine aw_aload_n (j := 3) (i := 3) dL_law_2736 rfl rfl rfl ?_
  refine aw_callSH (M' := mL_buy) (S := []) (as := [vR 11 0, vI (sc (x4 + 1).toNatClampNeg), vI (sc (x4 + 2).toNatClampNeg), vR 66 0]) (k := 1) dL_law_2737 rfl gh_1452 gh_1453 mb_L_buy rfl (by omega) (Nat.le_of_ble_eq_true rfl) rfl (CLH.imp k (fun _ h1 k => ?_) (fun _ _ k => k))
  obtain ⟨r2, rfl, k⟩ := oI_of k
  show AW (oa_X nS sc) (d + 1) rb mL_law 2740 _ [vI r2] h1 Qr Qx
  refine aw_istore (i := 5) (L2 := [(5, vI r2), (0, vR 2000 0), (1, vR 11 0), (2, vR 12 0), (3, vR 66 0), (4, vI x4)]) dL_law_2740 rfl (by decide) rfl ?_
  refine aw_aload_n (j := 3) (i := 2) dL_law_2742 rfl rfl rfl ?_
  refine aw_aload_n (j := 1) (i := 0) dL_law_2743 rfl rfl rfl ?_
  refine aw_iload (j := 5) (i := 4) dL_law_2744 rfl rfl ?_
  refine aw_iconst (v := 1) dL_law_2746 rfl (by decide) ?_
  refine aw_iadd dL_law_2747 rfl ?_
  refine aw_sldX dL_law_2748 rfl k.1 ?_
  replace k := k.2
  refine aw_aload_n (j := 1) (i := 0) dL_law_2749 rfl rfl rfl ?_
  refine aw_iload (j := 5) (i := 4) dL_law_2750 rfl rfl ?_
  refine aw_iconst (v := 2) dL_law_2752 rfl (by decide) ?_
  refine aw_iadd dL_law_2753 rfl ?_
  refine aw_sldX dL_law_2754 rfl k.1 ?_
  replace k := k.2
  refine aw_callV (M' := mX12_buy) (S := []) (as := [vI (sc (x4 + 1).toNatClampNeg), vI (sc (x4 + 2).toNatClampNeg)]) (k := 0) dL_law_2755 rfl (by decide) rfl rfl gh_2047 gh_2048 gh_2049 mb_X12_buy rfl (Nat.zero_le _) (Nat.le_of_ble_eq_true rfl) rfl (CL.imp k (fun _ h3 k => ?_) (fun _ _ k => k))
  obtain ⟨r4, rfl, k⟩ := oI_of k
  show AW (oa_X nS sc) (d + 1) _ mL_law 2758 _ [vI r4] h3 Qr Qx
  refine aw_istore (i := 6) (L2 := [(6, vI r4), (5, vI r2), (0, vR 2000 0), (1, vR 11 0), (2, vR 12 0), (3, vR 66 0), (4, vI x4)]) dL_law_2758 rfl (by decide) rfl ?_
  refine aw_aload_n (j := 4) (i := 2) dL_law_2760 rfl rfl rfl ?_
  refine aw_callV (M' := mX12_thrown) (S := []) (as := []) (k := 0) dL_law_2761 rfl (by decide) rfl rfl gh_1560 gh_1561 gh_1562 mb_X12_thrown rfl (Nat.zero_le _) (Nat.le_of_ble_eq_true rfl) rfl (CL.imp k (fun _ h5 k => ?_) (fun _ _ k => k))
  obtain ⟨r6, rfl, k⟩ := oI_of k
  show AW (oa_X nS sc) (d + 1) _ mL_law 2764 _ [vI r6] h5 Qr Qx
  refine aw_iload (j := 1) (i := 5) dL_law_2764 rfl rfl ?_
  refine aw_icmp_eq 2771 dL_law_2766 rfl rfl (fun c => ?_) (fun c => ?_)
  · replace k := k.1 c
    refine aw_iload (j := 1) (i := 5) dL_law_2771 rfl rfl ?_
    refine aw_if_ne 2788 dL_law_2773 rfl rfl (fun c => ?_) (fun c => ?_)
    · replace k := k.1 c
      refine aw_goto 3140 dL_law_2788 rfl ?_
      exact AW.mono (Nat.le_refl _) (by omega) (aw_sub [2, 3, 4, 5, 6] rfl k)
    · replace k := k.2 c
      refine aw_aload_n (j := 5) (i := 3) dL_law_2776 rfl rfl rfl ?_
      refine aw_iconst (v := 0) dL_law_2777 rfl (by decide) ?_
      refine aw_lald dL_law_2778 rfl (by decide) rfl (by unfold vp_in; decide) ?_
      refine aw_iload (j := 0) (i := 6) dL_law_2779 rfl rfl ?_
      refine aw_i2l dL_law_2781 rfl ?_
      refine aw_lcmp dL_law_2782 rfl ?_
      refine aw_if_eq 2788 dL_law_2783 rfl rfl (fun c => ?_) (fun c => ?_)
      · replace k := k.1 c
        refine aw_goto 3140 dL_law_2788 rfl ?_
        exact AW.mono (Nat.le_refl _) (by omega) (aw_sub [2, 3, 4, 5, 6] rfl k)
      · replace k := k.2 c
        refine aw_iconst (v := 0) dL_law_2786 rfl (by decide) ?_
        exact aw_zret dL_law_2787 rfl (by decide) k
  · replace k := k.2 c
    refine aw_iconst (v := 0) dL_law_2769 rfl (by decide) ?_
    exact aw_zret dL_law_2770 rfl (by decide) k
set_option maxHeartbeats 4000000 in
set_option maxRecDepth 100000 in
theorem vc_L_law_2791 {nS : Nat} {sc : Nat → Int32} {d rb : Nat} {h : Hp} {Qr : Option AV → Hp → Prop} {Qx : String → Hp → Prop} {x4 : Int32} (k : (vp_in (x4 + 1) nS) ∧ (vp_in (x4 + 2) nS) ∧ CLH 1 d mL_adjust [vR 11 0, vI (sc (x4 + 1).toNatClampNeg), vI (sc (x4 + 2).toNatClampNeg), vR 66 0] h (oI fun r2 h1 => (vp_in (x4 + 1) nS) ∧ (vp_in (x4 + 2) nS) ∧ CL 0 d mX12_adjust [vR 12 0, vI (sc (x4 + 1).toNatClampNeg), vI (sc (x4 + 2).toNatClampNeg)] h1 (oI fun r4 h3 => CL 0 d mX12_thrown [vR 12 0] h3 (oI fun r6 h5 => ((r6 = r2) → ((¬ r2 = 0) → AW (oa_X nS sc) (d + 1) rb mL_law 3140 [(0, vR 2000 0), (1, vR 11 0), (2, vR 12 0), (3, vR 66 0), (4, vI x4)] [] h5 Qr Qx) ∧ ((r2 = 0) → (((lg_cmp (h5.2.1 66 0 0) r4.toInt64) = 0) → AW (oa_X nS sc) (d + 1) rb mL_law 3140 [(0, vR 2000 0), (1, vR 11 0), (2, vR 12 0), (3, vR 66 0), (4, vI x4)] [] h5 Qr Qx) ∧ ((¬ (lg_cmp (h5.2.1 66 0 0) r4.toInt64) = 0) → Qr (some (vI 0)) h5))) ∧ ((¬ r6 = r2) → Qr (some (vI 0)) h5)) Qx) Qx) Qx) : AW (oa_X nS sc) (d + 1) (rb + 1) mL_law 2791 [(0, vR 2000 0), (1, vR 11 0), (2, vR 12 0), (3, vR 66 0), (4, vI x4)] [] h Qr Qx := by
  refine aw_aload_n (j := 1) (i := 1) dL_law_2791 rfl rfl rfl ?_
  refine aw_aload_n (j := 0) (i := 0) dL_law_2792 rfl rfl rfl ?_
  refine aw_iload (j := 4) (i := 4) dL_law_2793 rfl rfl ?_
  refine aw_iconst (v := 1) dL_law_2795 rfl (by decide) ?_
  refine aw_iadd dL_law_2796 rfl ?_
  refine aw_sldX dL_law_2797 rfl k.1 ?_
  replace k := k.2
  refine aw_aload_n (j := 0) (i := 0) dL_law_2798 rfl rfl rfl ?_
  refine aw_iload (j := 4) (i := 4) dL_law_2799 rfl rfl ?_
  refine aw_iconst (v := 2) dL_law_2801 rfl (by decide) ?_
  refine aw_iadd dL_law_2802 rfl ?_
  refine aw_sldX dL_law_2803 rfl k.1 ?_
  replace k := k.2
  refine aw_aload_n (j := 3) (i := 3) dL_law_2804 rfl rfl rfl ?_
  refine aw_callSH (M' := mL_adjust) (S := []) (as := [vR 11 0, vI (sc (x4 + 1).toNatClampNeg), vI (sc (x4 + 2).toNatClampNeg), vR 66 0]) (k := 1) dL_law_2805 rfl gh_1467 gh_1468 mb_L_adjust rfl (by omega) (Nat.le_of_ble_eq_true rfl) rfl (CLH.imp k (fun _ h1 k => ?_) (fun _ _ k => k))
  obtain ⟨r2, rfl, k⟩ := oI_of k
  show AW (oa_X nS sc) (d + 1) rb mL_law 2808 _ [vI r2] h1 Qr Qx
  refine aw_istore (i := 5) (L2 := [(5, vI r2), (0, vR 2000 0), (1, vR 11 0), (2, vR 12 0), (3, vR 66 0), (4, vI x4)]) dL_law_2808 rfl (by decide) rfl ?_
  refine aw_aload_n (j := 3) (i := 2) dL_law_2810 rfl rfl rfl ?_
  refine aw_aload_n (j := 1) (i := 0) dL_law_2811 rfl rfl rfl ?_
  refine aw_iload (j := 5) (i := 4) dL_law_2812 rfl rfl ?_
  refine aw_iconst (v := 1) dL_law_2814 rfl (by decide) ?_
  refine aw_iadd dL_law_2815 rfl ?_
  refine aw_sldX dL_law_2816 rfl k.1 ?_
  replace k := k.2
  refine aw_aload_n (j := 1) (i := 0) dL_law_2817 rfl rfl rfl ?_
  refine aw_iload (j := 5) (i := 4) dL_law_2818 rfl rfl ?_
  refine aw_iconst (v := 2) dL_law_2820 rfl (by decide) ?_
  refine aw_iadd dL_law_2821 rfl ?_
  refine aw_sldX dL_law_2822 rfl k.1 ?_
  replace k := k.2
  refine aw_callV (M' := mX12_adjust) (S := []) (as := [vI (sc (x4 + 1).toNatClampNeg), vI (sc (x4 + 2).toNatClampNeg)]) (k := 0) dL_law_2823 rfl (by decide) rfl rfl gh_2051 gh_2052 gh_2053 mb_X12_adjust rfl (Nat.zero_le _) (Nat.le_of_ble_eq_true rfl) rfl (CL.imp k (fun _ h3 k => ?_) (fun _ _ k => k))
  obtain ⟨r4, rfl, k⟩ := oI_of k
  show AW (oa_X nS sc) (d + 1) _ mL_law 2826 _ [vI r4] h3 Qr Qx
  refine aw_istore (i := 6) (L2 := [(6, vI r4), (5, vI r2), (0, vR 2000 0), (1, vR 11 0), (2, vR 12 0), (3, vR 66 0), (4, vI x4)]) dL_law_2826 rfl (by decide) rfl ?_
  refine aw_aload_n (j := 4) (i := 2) dL_law_2828 rfl rfl rfl ?_
  refine aw_callV (M' := mX12_thrown) (S := []) (as := []) (k := 0) dL_law_2829 rfl (by decide) rfl rfl gh_1560 gh_1561 gh_1562 mb_X12_thrown rfl (Nat.zero_le _) (Nat.le_of_ble_eq_true rfl) rfl (CL.imp k (fun _ h5 k => ?_) (fun _ _ k => k))
  obtain ⟨r6, rfl, k⟩ := oI_of k
  show AW (oa_X nS sc) (d + 1) _ mL_law 2832 _ [vI r6] h5 Qr Qx
  refine aw_iload (j := 1) (i := 5) dL_law_2832 rfl rfl ?_
  refine aw_icmp_eq 2839 dL_law_2834 rfl rfl (fun c => ?_) (fun c => ?_)
  · replace k := k.1 c
    refine aw_iload (j := 1) (i := 5) dL_law_2839 rfl rfl ?_
    refine aw_if_ne 2856 dL_law_2841 rfl rfl (fun c => ?_) (fun c => ?_)
    · replace k := k.1 c
      refine aw_goto 3140 dL_law_2856 rfl ?_
      exact AW.mono (Nat.le_refl _) (by omega) (aw_sub [2, 3, 4, 5, 6] rfl k)
    · replace k := k.2 c
      refine aw_aload_n (j := 5) (i := 3) dL_law_2844 rfl rfl rfl ?_
      refine aw_iconst (v := 0) dL_law_2845 rfl (by decide) ?_
      refine aw_lald dL_law_2846 rfl (by decide) rfl (by unfold vp_in; decide) ?_
      refine aw_iload (j := 0) (i := 6) dL_law_2847 rfl rfl ?_
      refine aw_i2l dL_law_2849 rfl ?_
      refine aw_lcmp dL_law_2850 rfl ?_
      refine aw_if_eq 2856 dL_law_2851 rfl rfl (fun c => ?_) (fun c => ?_)
      · replace k := k.1 c
        refine aw_goto 3140 dL_law_2856 rfl ?_
        exact AW.mono (Nat.le_refl _) (by omega) (aw_sub [2, 3, 4, 5, 6] rfl k)
      · replace k := k.2 c
        refine aw_iconst (v := 0) dL_law_2854 rfl (by decide) ?_
        exact aw_zret dL_law_2855 rfl (by decide) k
  · replace k := k.2 c
    refine aw_iconst (v := 0) dL_law_2837 rfl (by decide) ?_
    exact aw_zret dL_law_2838 rfl (by decide) k
set_option maxHeartbeats 4000000 in
set_option maxRecDepth 100000 in
theorem vc_L_law_2859 {nS : Nat} {sc : Nat → Int32} {d rb : Nat} {h : Hp} {Qr : Option AV → Hp → Prop} {Qx : String → Hp → Prop} {x4 : Int32} (k : (vp_in (x4 + 1) nS) ∧ CLH 1 d mL_advance [vR 11 0, vI (sc (x4 + 1).toNatClampNeg), vR 66 0] h (oI fun r2 h1 => (vp_in (x4 + 1) nS) ∧ CL 0 d mX12_advance [vR 12 0, vI (sc (x4 + 1).toNatClampNeg)] h1 (oI fun r4 h3 => CL 0 d mX12_thrown [vR 12 0] h3 (oI fun r6 h5 => ((r6 = r2) → ((¬ r2 = 0) → AW (oa_X nS sc) (d + 1) rb mL_law 3140 [(0, vR 2000 0), (1, vR 11 0), (2, vR 12 0), (3, vR 66 0), (4, vI x4)] [] h5 Qr Qx) ∧ ((r2 = 0) → (((lg_cmp (h5.2.1 66 0 0) r4.toInt64) = 0) → AW (oa_X nS sc) (d + 1) rb mL_law 3140 [(0, vR 2000 0), (1, vR 11 0), (2, vR 12 0), (3, vR 66 0), (4, vI x4)] [] h5 Qr Qx) ∧ ((¬ (lg_cmp (h5.2.1 66 0 0) r4.toInt64) = 0) → Qr (some (vI 0)) h5))) ∧ ((¬ r6 = r2) → Qr (some (vI 0)) h5)) Qx) Qx) Qx) : AW (oa_X nS sc) (d + 1) (rb + 1) mL_law 2859 [(0, vR 2000 0), (1, vR 11 0), (2, vR 12 0), (3, vR 66 0), (4, vI x4)] [] h Qr Qx := by
  refine aw_aload_n (j := 1) (i := 1) dL_law_2859 rfl rfl rfl ?_
  refine aw_aload_n (j := 0) (i := 0) dL_law_2860 rfl rfl rfl ?_
  refine aw_iload (j := 4) (i := 4) dL_law_2861 rfl rfl ?_
  refine aw_iconst (v := 1) dL_law_2863 rfl (by decide) ?_
  refine aw_iadd dL_law_2864 rfl ?_
  refine aw_sldX dL_law_2865 rfl k.1 ?_
  replace k := k.2
  refine aw_aload_n (j := 3) (i := 3) dL_law_2866 rfl rfl rfl ?_
  refine aw_callSH (M' := mL_advance) (S := []) (as := [vR 11 0, vI (sc (x4 + 1).toNatClampNeg), vR 66 0]) (k := 1) dL_law_2867 rfl gh_1491 gh_1492 mb_L_advance rfl (by omega) (Nat.le_of_ble_eq_true rfl) rfl (CLH.imp k (fun _ h1 k => ?_) (fun _ _ k => k))
  obtain ⟨r2, rfl, k⟩ := oI_of k
  show AW (oa_X nS sc) (d + 1) rb mL_law 2870 _ [vI r2] h1 Qr Qx
  refine aw_istore (i := 5) (L2 := [(5, vI r2), (0, vR 2000 0), (1, vR 11 0), (2, vR 12 0), (3, vR 66 0), (4, vI x4)]) dL_law_2870 rfl (by decide) rfl ?_
  refine aw_aload_n (j := 3) (i := 2) dL_law_2872 rfl rfl rfl ?_
  refine aw_aload_n (j := 1) (i := 0) dL_law_2873 rfl rfl rfl ?_
  refine aw_iload (j := 5) (i := 4) dL_law_2874 rfl rfl ?_
  refine aw_iconst (v := 1) dL_law_2876 rfl (by decide) ?_
  refine aw_iadd dL_law_2877 rfl ?_
  refine aw_sldX dL_law_2878 rfl k.1 ?_
  replace k := k.2
  refine aw_callV (M' := mX12_advance) (S := []) (as := [vI (sc (x4 + 1).toNatClampNeg)]) (k := 0) dL_law_2879 rfl (by decide) rfl rfl gh_2059 gh_2060 gh_2061 mb_X12_advance rfl (Nat.zero_le _) (Nat.le_of_ble_eq_true rfl) rfl (CL.imp k (fun _ h3 k => ?_) (fun _ _ k => k))
  obtain ⟨r4, rfl, k⟩ := oI_of k
  show AW (oa_X nS sc) (d + 1) _ mL_law 2882 _ [vI r4] h3 Qr Qx
  refine aw_istore (i := 6) (L2 := [(6, vI r4), (5, vI r2), (0, vR 2000 0), (1, vR 11 0), (2, vR 12 0), (3, vR 66 0), (4, vI x4)]) dL_law_2882 rfl (by decide) rfl ?_
  refine aw_aload_n (j := 4) (i := 2) dL_law_2884 rfl rfl rfl ?_
  refine aw_callV (M' := mX12_thrown) (S := []) (as := []) (k := 0) dL_law_2885 rfl (by decide) rfl rfl gh_1560 gh_1561 gh_1562 mb_X12_thrown rfl (Nat.zero_le _) (Nat.le_of_ble_eq_true rfl) rfl (CL.imp k (fun _ h5 k => ?_) (fun _ _ k => k))
  obtain ⟨r6, rfl, k⟩ := oI_of k
  show AW (oa_X nS sc) (d + 1) _ mL_law 2888 _ [vI r6] h5 Qr Qx
  refine aw_iload (j := 1) (i := 5) dL_law_2888 rfl rfl ?_
  refine aw_icmp_eq 2895 dL_law_2890 rfl rfl (fun c => ?_) (fun c => ?_)
  · replace k := k.1 c
    refine aw_iload (j := 1) (i := 5) dL_law_2895 rfl rfl ?_
    refine aw_if_ne 2912 dL_law_2897 rfl rfl (fun c => ?_) (fun c => ?_)
    · replace k := k.1 c
      refine aw_goto 3140 dL_law_2912 rfl ?_
      exact AW.mono (Nat.le_refl _) (by omega) (aw_sub [2, 3, 4, 5, 6] rfl k)
    · replace k := k.2 c
      refine aw_aload_n (j := 5) (i := 3) dL_law_2900 rfl rfl rfl ?_
      refine aw_iconst (v := 0) dL_law_2901 rfl (by decide) ?_
      refine aw_lald dL_law_2902 rfl (by decide) rfl (by unfold vp_in; decide) ?_
      refine aw_iload (j := 0) (i := 6) dL_law_2903 rfl rfl ?_
      refine aw_i2l dL_law_2905 rfl ?_
      refine aw_lcmp dL_law_2906 rfl ?_
      refine aw_if_eq 2912 dL_law_2907 rfl rfl (fun c => ?_) (fun c => ?_)
      · replace k := k.1 c
        refine aw_goto 3140 dL_law_2912 rfl ?_
        exact AW.mono (Nat.le_refl _) (by omega) (aw_sub [2, 3, 4, 5, 6] rfl k)
      · replace k := k.2 c
        refine aw_iconst (v := 0) dL_law_2910 rfl (by decide) ?_
        exact aw_zret dL_law_2911 rfl (by decide) k
  · replace k := k.2 c
    refine aw_iconst (v := 0) dL_law_2893 rfl (by decide) ?_
    exact aw_zret dL_law_2894 rfl (by decide) k
set_option maxHeartbeats 4000000 in
set_option maxRecDepth 100000 in
theorem vc_L_law_2915 {nS : Nat} {sc : Nat → Int32} {d rb : Nat} {h : Hp} {Qr : Option AV → Hp → Prop} {Qx : String → Hp → Prop} {x4 : Int32} (k : CL 0 d mX11_undo [vR 11 0] h (oI fun r2 h1 => CL 0 d mX12_undo [vR 12 0] h1 (oI fun r4 h3 => ((r2 = r4) → AW (oa_X nS sc) (d + 1) rb mL_law 3140 [(0, vR 2000 0), (1, vR 11 0), (2, vR 12 0), (3, vR 66 0), (4, vI x4)] [] h3 Qr Qx) ∧ ((¬ r2 = r4) → Qr (some (vI 0)) h3)) Qx) Qx) : AW (oa_X nS sc) (d + 1) (rb + 1) mL_law 2915 [(0, vR 2000 0), (1, vR 11 0), (2, vR 12 0), (3, vR 66 0), (4, vI x4)] [] h Qr Qx := by
  refine aw_aload_n (j := 1) (i := 1) dL_law_2915 rfl rfl rfl ?_
  refine aw_callV (M' := mX11_undo) (S := []) (as := []) (k := 0) dL_law_2916 rfl (by decide) rfl rfl gh_695 gh_696 gh_697 mb_X11_undo rfl (Nat.zero_le _) (Nat.le_of_ble_eq_true rfl) rfl (CL.imp k (fun _ h1 k => ?_) (fun _ _ k => k))
  obtain ⟨r2, rfl, k⟩ := oI_of k
  show AW (oa_X nS sc) (d + 1) _ mL_law 2919 _ [vI r2] h1 Qr Qx
  refine aw_aload_n (j := 2) (i := 2) dL_law_2919 rfl rfl rfl ?_
  refine aw_callV (M' := mX12_undo) (S := [vI r2]) (as := []) (k := 0) dL_law_2920 rfl (by decide) rfl rfl gh_1752 gh_1753 gh_1754 mb_X12_undo rfl (Nat.zero_le _) (Nat.le_of_ble_eq_true rfl) rfl (CL.imp k (fun _ h3 k => ?_) (fun _ _ k => k))
  obtain ⟨r4, rfl, k⟩ := oI_of k
  show AW (oa_X nS sc) (d + 1) _ mL_law 2923 _ [vI r4, vI r2] h3 Qr Qx
  refine aw_icmp_eq 3140 dL_law_2923 rfl rfl (fun c => ?_) (fun c => ?_)
  · replace k := k.1 c
    exact AW.mono (Nat.le_refl _) (by omega) (aw_sub [0, 1, 2, 3, 4] rfl k)
  · replace k := k.2 c
    refine aw_iconst (v := 0) dL_law_2926 rfl (by decide) ?_
    exact aw_zret dL_law_2927 rfl (by decide) k
set_option maxHeartbeats 4000000 in
set_option maxRecDepth 100000 in
theorem vc_L_law_2928 {nS : Nat} {sc : Nat → Int32} {d rb : Nat} {h : Hp} {Qr : Option AV → Hp → Prop} {Qx : String → Hp → Prop} {x4 : Int32} (k : CL 0 d mX11_undoDepth [vR 11 0] h (oI fun r2 h1 => CL 0 d mX12_undoDepth [vR 12 0] h1 (oI fun r4 h3 => ((r2 = r4) → AW (oa_X nS sc) (d + 1) rb mL_law 3140 [(0, vR 2000 0), (1, vR 11 0), (2, vR 12 0), (3, vR 66 0), (4, vI x4)] [] h3 Qr Qx) ∧ ((¬ r2 = r4) → Qr (some (vI 0)) h3)) Qx) Qx) : AW (oa_X nS sc) (d + 1) (rb + 1) mL_law 2928 [(0, vR 2000 0), (1, vR 11 0), (2, vR 12 0), (3, vR 66 0), (4, vI x4)] [] h Qr Qx := by
  refine aw_aload_n (j := 1) (i := 1) dL_law_2928 rfl rfl rfl ?_
  refine aw_callV (M' := mX11_undoDepth) (S := []) (as := []) (k := 0) dL_law_2929 rfl (by decide) rfl rfl gh_703 gh_704 gh_705 mb_X11_undoDepth rfl (Nat.zero_le _) (Nat.le_of_ble_eq_true rfl) rfl (CL.imp k (fun _ h1 k => ?_) (fun _ _ k => k))
  obtain ⟨r2, rfl, k⟩ := oI_of k
  show AW (oa_X nS sc) (d + 1) _ mL_law 2932 _ [vI r2] h1 Qr Qx
  refine aw_aload_n (j := 2) (i := 2) dL_law_2932 rfl rfl rfl ?_
  refine aw_callV (M' := mX12_undoDepth) (S := [vI r2]) (as := []) (k := 0) dL_law_2933 rfl (by decide) rfl rfl gh_1756 gh_1757 gh_1758 mb_X12_undoDepth rfl (Nat.zero_le _) (Nat.le_of_ble_eq_true rfl) rfl (CL.imp k (fun _ h3 k => ?_) (fun _ _ k => k))
  obtain ⟨r4, rfl, k⟩ := oI_of k
  show AW (oa_X nS sc) (d + 1) _ mL_law 2936 _ [vI r4, vI r2] h3 Qr Qx
  refine aw_icmp_eq 3140 dL_law_2936 rfl rfl (fun c => ?_) (fun c => ?_)
  · replace k := k.1 c
    exact AW.mono (Nat.le_refl _) (by omega) (aw_sub [0, 1, 2, 3, 4] rfl k)
  · replace k := k.2 c
    refine aw_iconst (v := 0) dL_law_2939 rfl (by decide) ?_
    exact aw_zret dL_law_2940 rfl (by decide) k
set_option maxHeartbeats 4000000 in
set_option maxRecDepth 100000 in
theorem vc_L_law_2941 {nS : Nat} {sc : Nat → Int32} {d rb : Nat} {h : Hp} {Qr : Option AV → Hp → Prop} {Qx : String → Hp → Prop} {x4 : Int32} (k : (vp_in (x4 + 1) nS) ∧ CL 0 d mX11_total [vR 11 0, vI (sc (x4 + 1).toNatClampNeg)] h (oI fun r2 h1 => (vp_in (x4 + 1) nS) ∧ CL 0 d mX12_total [vR 12 0, vI (sc (x4 + 1).toNatClampNeg)] h1 (oI fun r4 h3 => ((r2 = r4) → AW (oa_X nS sc) (d + 1) rb mL_law 3140 [(0, vR 2000 0), (1, vR 11 0), (2, vR 12 0), (3, vR 66 0), (4, vI x4)] [] h3 Qr Qx) ∧ ((¬ r2 = r4) → Qr (some (vI 0)) h3)) Qx) Qx) : AW (oa_X nS sc) (d + 1) (rb + 1) mL_law 2941 [(0, vR 2000 0), (1, vR 11 0), (2, vR 12 0), (3, vR 66 0), (4, vI x4)] [] h Qr Qx := by
  refine aw_aload_n (j := 1) (i := 1) dL_law_2941 rfl rfl rfl ?_
  refine aw_aload_n (j := 0) (i := 0) dL_law_2942 rfl rfl rfl ?_
  refine aw_iload (j := 4) (i := 4) dL_law_2943 rfl rfl ?_
  refine aw_iconst (v := 1) dL_law_2945 rfl (by decide) ?_
  refine aw_iadd dL_law_2946 rfl ?_
  refine aw_sldX dL_law_2947 rfl k.1 ?_
  replace k := k.2
  refine aw_callV (M' := mX11_total) (S := []) (as := [vI (sc (x4 + 1).toNatClampNeg)]) (k := 0) dL_law_2948 rfl (by decide) rfl rfl gh_707 gh_708 gh_709 mb_X11_total rfl (Nat.zero_le _) (Nat.le_of_ble_eq_true rfl) rfl (CL.imp k (fun _ h1 k => ?_) (fun _ _ k => k))
  obtain ⟨r2, rfl, k⟩ := oI_of k
  show AW (oa_X nS sc) (d + 1) _ mL_law 2951 _ [vI r2] h1 Qr Qx
  refine aw_aload_n (j := 2) (i := 2) dL_law_2951 rfl rfl rfl ?_
  refine aw_aload_n (j := 0) (i := 0) dL_law_2952 rfl rfl rfl ?_
  refine aw_iload (j := 4) (i := 4) dL_law_2953 rfl rfl ?_
  refine aw_iconst (v := 1) dL_law_2955 rfl (by decide) ?_
  refine aw_iadd dL_law_2956 rfl ?_
  refine aw_sldX dL_law_2957 rfl k.1 ?_
  replace k := k.2
  refine aw_callV (M' := mX12_total) (S := [vI r2]) (as := [vI (sc (x4 + 1).toNatClampNeg)]) (k := 0) dL_law_2958 rfl (by decide) rfl rfl gh_2067 gh_2068 gh_2069 mb_X12_total rfl (Nat.zero_le _) (Nat.le_of_ble_eq_true rfl) rfl (CL.imp k (fun _ h3 k => ?_) (fun _ _ k => k))
  obtain ⟨r4, rfl, k⟩ := oI_of k
  show AW (oa_X nS sc) (d + 1) _ mL_law 2961 _ [vI r4, vI r2] h3 Qr Qx
  refine aw_icmp_eq 3140 dL_law_2961 rfl rfl (fun c => ?_) (fun c => ?_)
  · replace k := k.1 c
    exact AW.mono (Nat.le_refl _) (by omega) (aw_sub [0, 1, 2, 3, 4] rfl k)
  · replace k := k.2 c
    refine aw_iconst (v := 0) dL_law_2964 rfl (by decide) ?_
    exact aw_zret dL_law_2965 rfl (by decide) k
set_option maxHeartbeats 4000000 in
set_option maxRecDepth 100000 in
theorem vc_L_law_2966 {nS : Nat} {sc : Nat → Int32} {d rb : Nat} {h : Hp} {Qr : Option AV → Hp → Prop} {Qx : String → Hp → Prop} {x4 : Int32} (k : (vp_in (x4 + 1) nS) ∧ (vp_in (x4 + 2) nS) ∧ CL 0 d mX11_shipment [vR 11 0, vI (sc (x4 + 1).toNatClampNeg), vI (sc (x4 + 2).toNatClampNeg)] h (oI fun r2 h1 => (vp_in (x4 + 1) nS) ∧ (vp_in (x4 + 2) nS) ∧ CL 0 d mX12_shipment [vR 12 0, vI (sc (x4 + 1).toNatClampNeg), vI (sc (x4 + 2).toNatClampNeg)] h1 (oI fun r4 h3 => ((r2 = r4) → AW (oa_X nS sc) (d + 1) rb mL_law 3140 [(0, vR 2000 0), (1, vR 11 0), (2, vR 12 0), (3, vR 66 0), (4, vI x4)] [] h3 Qr Qx) ∧ ((¬ r2 = r4) → Qr (some (vI 0)) h3)) Qx) Qx) : AW (oa_X nS sc) (d + 1) (rb + 1) mL_law 2966 [(0, vR 2000 0), (1, vR 11 0), (2, vR 12 0), (3, vR 66 0), (4, vI x4)] [] h Qr Qx := by
  refine aw_aload_n (j := 1) (i := 1) dL_law_2966 rfl rfl rfl ?_
  refine aw_aload_n (j := 0) (i := 0) dL_law_2967 rfl rfl rfl ?_
  refine aw_iload (j := 4) (i := 4) dL_law_2968 rfl rfl ?_
  refine aw_iconst (v := 1) dL_law_2970 rfl (by decide) ?_
  refine aw_iadd dL_law_2971 rfl ?_
  refine aw_sldX dL_law_2972 rfl k.1 ?_
  replace k := k.2
  refine aw_aload_n (j := 0) (i := 0) dL_law_2973 rfl rfl rfl ?_
  refine aw_iload (j := 4) (i := 4) dL_law_2974 rfl rfl ?_
  refine aw_iconst (v := 2) dL_law_2976 rfl (by decide) ?_
  refine aw_iadd dL_law_2977 rfl ?_
  refine aw_sldX dL_law_2978 rfl k.1 ?_
  replace k := k.2
  refine aw_callV (M' := mX11_shipment) (S := []) (as := [vI (sc (x4 + 1).toNatClampNeg), vI (sc (x4 + 2).toNatClampNeg)]) (k := 0) dL_law_2979 rfl (by decide) rfl rfl gh_716 gh_717 gh_718 mb_X11_shipment rfl (Nat.zero_le _) (Nat.le_of_ble_eq_true rfl) rfl (CL.imp k (fun _ h1 k => ?_) (fun _ _ k => k))
  obtain ⟨r2, rfl, k⟩ := oI_of k
  show AW (oa_X nS sc) (d + 1) _ mL_law 2982 _ [vI r2] h1 Qr Qx
  refine aw_aload_n (j := 2) (i := 2) dL_law_2982 rfl rfl rfl ?_
  refine aw_aload_n (j := 0) (i := 0) dL_law_2983 rfl rfl rfl ?_
  refine aw_iload (j := 4) (i := 4) dL_law_2984 rfl rfl ?_
  refine aw_iconst (v := 1) dL_law_2986 rfl (by decide) ?_
  refine aw_iadd dL_law_2987 rfl ?_
  refine aw_sldX dL_law_2988 rfl k.1 ?_
  replace k := k.2
  refine aw_aload_n (j := 0) (i := 0) dL_law_2989 rfl rfl rfl ?_
  refine aw_iload (j := 4) (i := 4) dL_law_2990 rfl rfl ?_
  refine aw_iconst (v := 2) dL_law_2992 rfl (by decide) ?_
  refine aw_iadd dL_law_2993 rfl ?_
  refine aw_sldX dL_law_2994 rfl k.1 ?_
  replace k := k.2
  refine aw_callV (M' := mX12_shipment) (S := [vI r2]) (as := [vI (sc (x4 + 1).toNatClampNeg), vI (sc (x4 + 2).toNatClampNeg)]) (k := 0) dL_law_2995 rfl (by decide) rfl rfl gh_2071 gh_2072 gh_2073 mb_X12_shipment rfl (Nat.zero_le _) (Nat.le_of_ble_eq_true rfl) rfl (CL.imp k (fun _ h3 k => ?_) (fun _ _ k => k))
  obtain ⟨r4, rfl, k⟩ := oI_of k
  show AW (oa_X nS sc) (d + 1) _ mL_law 2998 _ [vI r4, vI r2] h3 Qr Qx
  refine aw_icmp_eq 3140 dL_law_2998 rfl rfl (fun c => ?_) (fun c => ?_)
  · replace k := k.1 c
    exact AW.mono (Nat.le_refl _) (by omega) (aw_sub [0, 1, 2, 3, 4] rfl k)
  · replace k := k.2 c
    refine aw_iconst (v := 0) dL_law_3001 rfl (by decide) ?_
    exact aw_zret dL_law_3002 rfl (by decide) k
set_option maxHeartbeats 4000000 in
set_option maxRecDepth 100000 in
theorem vc_L_law_3003 {nS : Nat} {sc : Nat → Int32} {d rb : Nat} {h : Hp} {Qr : Option AV → Hp → Prop} {Qx : String → Hp → Prop} {x4 : Int32} (k : (vp_in (x4 + 1) nS) ∧ CLH 1 d mL_formatOrder [vR 11 0, vI (sc (x4 + 1).toNatClampNeg), vR 66 0] h (oI fun r2 h1 => (vp_in (x4 + 1) nS) ∧ CL 0 d mX12_formatOrder [vR 12 0, vI (sc (x4 + 1).toNatClampNeg)] h1 (oI fun r4 h3 => CL 0 d mX12_thrown [vR 12 0] h3 (oI fun r6 h5 => ((r6 = r2) → ((¬ r2 = 0) → AW (oa_X nS sc) (d + 1) rb mL_law 3140 [(0, vR 2000 0), (1, vR 11 0), (2, vR 12 0), (3, vR 66 0), (4, vI x4)] [] h5 Qr Qx) ∧ ((r2 = 0) → (((lg_cmp (h5.2.1 66 0 0) r4.toInt64) = 0) → AW (oa_X nS sc) (d + 1) rb mL_law 3140 [(0, vR 2000 0), (1, vR 11 0), (2, vR 12 0), (3, vR 66 0), (4, vI x4)] [] h5 Qr Qx) ∧ ((¬ (lg_cmp (h5.2.1 66 0 0) r4.toInt64) = 0) → Qr (some (vI 0)) h5))) ∧ ((¬ r6 = r2) → Qr (some (vI 0)) h5)) Qx) Qx) Qx) : AW (oa_X nS sc) (d + 1) (rb + 1) mL_law 3003 [(0, vR 2000 0), (1, vR 11 0), (2, vR 12 0), (3, vR 66 0), (4, vI x4)] [] h Qr Qx := by
  refine aw_aload_n (j := 1) (i := 1) dL_law_3003 rfl rfl rfl ?_
  refine aw_aload_n (j := 0) (i := 0) dL_law_3004 rfl rfl rfl ?_
  refine aw_iload (j := 4) (i := 4) dL_law_3005 rfl rfl ?_
  refine aw_iconst (v := 1) dL_law_3007 rfl (by decide) ?_
  refine aw_iadd dL_law_3008 rfl ?_
  refine aw_sldX dL_law_3009 rfl k.1 ?_
  replace k := k.2
  refine aw_aload_n (j := 3) (i := 3) dL_law_3010 rfl rfl rfl ?_
  refine aw_callSH (M' := mL_formatOrder) (S := []) (as := [vR 11 0, vI (sc (x4 + 1).toNatClampNeg), vR 66 0]) (k := 1) dL_law_3011 rfl gh_1503 gh_1504 mb_L_formatOrder rfl (by omega) (Nat.le_of_ble_eq_true rfl) rfl (CLH.imp k (fun _ h1 k => ?_) (fun _ _ k => k))
  obtain ⟨r2, rfl, k⟩ := oI_of k
  show AW (oa_X nS sc) (d + 1) rb mL_law 3014 _ [vI r2] h1 Qr Qx
  refine aw_istore (i := 5) (L2 := [(5, vI r2), (0, vR 2000 0), (1, vR 11 0), (2, vR 12 0), (3, vR 66 0), (4, vI x4)]) dL_law_3014 rfl (by decide) rfl ?_
  refine aw_aload_n (j := 3) (i := 2) dL_law_3016 rfl rfl rfl ?_
  refine aw_aload_n (j := 1) (i := 0) dL_law_3017 rfl rfl rfl ?_
  refine aw_iload (j := 5) (i := 4) dL_law_3018 rfl rfl ?_
  refine aw_iconst (v := 1) dL_law_3020 rfl (by decide) ?_
  refine aw_iadd dL_law_3021 rfl ?_
  refine aw_sldX dL_law_3022 rfl k.1 ?_
  replace k := k.2
  refine aw_callV (M' := mX12_formatOrder) (S := []) (as := [vI (sc (x4 + 1).toNatClampNeg)]) (k := 0) dL_law_3023 rfl (by decide) rfl rfl gh_2075 gh_2076 gh_2077 mb_X12_formatOrder rfl (Nat.zero_le _) (Nat.le_of_ble_eq_true rfl) rfl (CL.imp k (fun _ h3 k => ?_) (fun _ _ k => k))
  obtain ⟨r4, rfl, k⟩ := oI_of k
  show AW (oa_X nS sc) (d + 1) _ mL_law 3026 _ [vI r4] h3 Qr Qx
  refine aw_istore (i := 6) (L2 := [(6, vI r4), (5, vI r2), (0, vR 2000 0), (1, vR 11 0), (2, vR 12 0), (3, vR 66 0), (4, vI x4)]) dL_law_3026 rfl (by decide) rfl ?_
  refine aw_aload_n (j := 4) (i := 2) dL_law_3028 rfl rfl rfl ?_
  refine aw_callV (M' := mX12_thrown) (S := []) (as := []) (k := 0) dL_law_3029 rfl (by decide) rfl rfl gh_1560 gh_1561 gh_1562 mb_X12_thrown rfl (Nat.zero_le _) (Nat.le_of_ble_eq_true rfl) rfl (CL.imp k (fun _ h5 k => ?_) (fun _ _ k => k))
  obtain ⟨r6, rfl, k⟩ := oI_of k
  show AW (oa_X nS sc) (d + 1) _ mL_law 3032 _ [vI r6] h5 Qr Qx
  refine aw_iload (j := 1) (i := 5) dL_law_3032 rfl rfl ?_
  refine aw_icmp_eq 3039 dL_law_3034 rfl rfl (fun c => ?_) (fun c => ?_)
  · replace k := k.1 c
    refine aw_iload (j := 1) (i := 5) dL_law_3039 rfl rfl ?_
    refine aw_if_ne 3056 dL_law_3041 rfl rfl (fun c => ?_) (fun c => ?_)
    · replace k := k.1 c
      refine aw_goto 3140 dL_law_3056 rfl ?_
      exact AW.mono (Nat.le_refl _) (by omega) (aw_sub [2, 3, 4, 5, 6] rfl k)
    · replace k := k.2 c
      refine aw_aload_n (j := 5) (i := 3) dL_law_3044 rfl rfl rfl ?_
      refine aw_iconst (v := 0) dL_law_3045 rfl (by decide) ?_
      refine aw_lald dL_law_3046 rfl (by decide) rfl (by unfold vp_in; decide) ?_
      refine aw_iload (j := 0) (i := 6) dL_law_3047 rfl rfl ?_
      refine aw_i2l dL_law_3049 rfl ?_
      refine aw_lcmp dL_law_3050 rfl ?_
      refine aw_if_eq 3056 dL_law_3051 rfl rfl (fun c => ?_) (fun c => ?_)
      · replace k := k.1 c
        refine aw_goto 3140 dL_law_3056 rfl ?_
        exact AW.mono (Nat.le_refl _) (by omega) (aw_sub [2, 3, 4, 5, 6] rfl k)
      · replace k := k.2 c
        refine aw_iconst (v := 0) dL_law_3054 rfl (by decide) ?_
        exact aw_zret dL_law_3055 rfl (by decide) k
  · replace k := k.2 c
    refine aw_iconst (v := 0) dL_law_3037 rfl (by decide) ?_
    exact aw_zret dL_law_3038 rfl (by decide) k
set_option maxHeartbeats 4000000 in
set_option maxRecDepth 100000 in
theorem vc_L_law_3059 {nS : Nat} {sc : Nat → Int32} {d rb : Nat} {h : Hp} {Qr : Option AV → Hp → Prop} {Qx : String → Hp → Prop} {x4 : Int32} (k : (vp_in (x4 + 1) nS) ∧ CLH 1 d mL_formatNeeds [vR 11 0, vI (sc (x4 + 1).toNatClampNeg), vR 66 0] h (oI fun r2 h1 => (vp_in (x4 + 1) nS) ∧ CL 0 d mX12_formatNeeds [vR 12 0, vI (sc (x4 + 1).toNatClampNeg)] h1 (oI fun r4 h3 => CL 0 d mX12_thrown [vR 12 0] h3 (oI fun r6 h5 => ((r6 = r2) → ((¬ r2 = 0) → AW (oa_X nS sc) (d + 1) rb mL_law 3140 [(0, vR 2000 0), (1, vR 11 0), (2, vR 12 0), (3, vR 66 0), (4, vI x4)] [] h5 Qr Qx) ∧ ((r2 = 0) → (((lg_cmp (h5.2.1 66 0 0) r4.toInt64) = 0) → AW (oa_X nS sc) (d + 1) rb mL_law 3140 [(0, vR 2000 0), (1, vR 11 0), (2, vR 12 0), (3, vR 66 0), (4, vI x4)] [] h5 Qr Qx) ∧ ((¬ (lg_cmp (h5.2.1 66 0 0) r4.toInt64) = 0) → Qr (some (vI 0)) h5))) ∧ ((¬ r6 = r2) → Qr (some (vI 0)) h5)) Qx) Qx) Qx) : AW (oa_X nS sc) (d + 1) (rb + 1) mL_law 3059 [(0, vR 2000 0), (1, vR 11 0), (2, vR 12 0), (3, vR 66 0), (4, vI x4)] [] h Qr Qx := by
  refine aw_aload_n (j := 1) (i := 1) dL_law_3059 rfl rfl rfl ?_
  refine aw_aload_n (j := 0) (i := 0) dL_law_3060 rfl rfl rfl ?_
  refine aw_iload (j := 4) (i := 4) dL_law_3061 rfl rfl ?_
  refine aw_iconst (v := 1) dL_law_3063 rfl (by decide) ?_
  refine aw_iadd dL_law_3064 rfl ?_
  refine aw_sldX dL_law_3065 rfl k.1 ?_
  replace k := k.2
  refine aw_aload_n (j := 3) (i := 3) dL_law_3066 rfl rfl rfl ?_
  refine aw_callSH (M' := mL_formatNeeds) (S := []) (as := [vR 11 0, vI (sc (x4 + 1).toNatClampNeg), vR 66 0]) (k := 1) dL_law_3067 rfl gh_1546 gh_1547 mb_L_formatNeeds rfl (by omega) (Nat.le_of_ble_eq_true rfl) rfl (CLH.imp k (fun _ h1 k => ?_) (fun _ _ k => k))
  obtain ⟨r2, rfl, k⟩ := oI_of k
  show AW (oa_X nS sc) (d + 1) rb mL_law 3070 _ [vI r2] h1 Qr Qx
  refine aw_istore (i := 5) (L2 := [(5, vI r2), (0, vR 2000 0), (1, vR 11 0), (2, vR 12 0), (3, vR 66 0), (4, vI x4)]) dL_law_3070 rfl (by decide) rfl ?_
  refine aw_aload_n (j := 3) (i := 2) dL_law_3072 rfl rfl rfl ?_
  refine aw_aload_n (j := 1) (i := 0) dL_law_3073 rfl rfl rfl ?_
  refine aw_iload (j := 5) (i := 4) dL_law_3074 rfl rfl ?_
  refine aw_iconst (v := 1) dL_law_3076 rfl (by decide) ?_
  refine aw_iadd dL_law_3077 rfl ?_
  refine aw_sldX dL_law_3078 rfl k.1 ?_
  replace k := k.2
  refine aw_callV (M' := mX12_formatNeeds) (S := []) (as := [vI (sc (x4 + 1).toNatClampNeg)]) (k := 0) dL_law_3079 rfl (by decide) rfl rfl gh_2107 gh_2108 gh_2109 mb_X12_formatNeeds rfl (Nat.zero_le _) (Nat.le_of_ble_eq_true rfl) rfl (CL.imp k (fun _ h3 k => ?_) (fun _ _ k => k))
  obtain ⟨r4, rfl, k⟩ := oI_of k
  show AW (oa_X nS sc) (d + 1) _ mL_law 3082 _ [vI r4] h3 Qr Qx
  refine aw_istore (i := 6) (L2 := [(6, vI r4), (5, vI r2), (0, vR 2000 0), (1, vR 11 0), (2, vR 12 0), (3, vR 66 0), (4, vI x4)]) dL_law_3082 rfl (by decide) rfl ?_
  refine aw_aload_n (j := 4) (i := 2) dL_law_3084 rfl rfl rfl ?_
  refine aw_callV (M' := mX12_thrown) (S := []) (as := []) (k := 0) dL_law_3085 rfl (by decide) rfl rfl gh_1560 gh_1561 gh_1562 mb_X12_thrown rfl (Nat.zero_le _) (Nat.le_of_ble_eq_true rfl) rfl (CL.imp k (fun _ h5 k => ?_) (fun _ _ k => k))
  obtain ⟨r6, rfl, k⟩ := oI_of k
  show AW (oa_X nS sc) (d + 1) _ mL_law 3088 _ [vI r6] h5 Qr Qx
  refine aw_iload (j := 1) (i := 5) dL_law_3088 rfl rfl ?_
  refine aw_icmp_eq 3095 dL_law_3090 rfl rfl (fun c => ?_) (fun c => ?_)
  · replace k := k.1 c
    refine aw_iload (j := 1) (i := 5) dL_law_3095 rfl rfl ?_
    refine aw_if_ne 3112 dL_law_3097 rfl rfl (fun c => ?_) (fun c => ?_)
    · replace k := k.1 c
      refine aw_goto 3140 dL_law_3112 rfl ?_
      exact AW.mono (Nat.le_refl _) (by omega) (aw_sub [2, 3, 4, 5, 6] rfl k)
    · replace k := k.2 c
      refine aw_aload_n (j := 5) (i := 3) dL_law_3100 rfl rfl rfl ?_
      refine aw_iconst (v := 0) dL_law_3101 rfl (by decide) ?_
      refine aw_lald dL_law_3102 rfl (by decide) rfl (by unfold vp_in; decide) ?_
      refine aw_iload (j := 0) (i := 6) dL_law_3103 rfl rfl ?_
      refine aw_i2l dL_law_3105 rfl ?_
      refine aw_lcmp dL_law_3106 rfl ?_
      refine aw_if_eq 3112 dL_law_3107 rfl rfl (fun c => ?_) (fun c => ?_)
      · replace k := k.1 c
        refine aw_goto 3140 dL_law_3112 rfl ?_
        exact AW.mono (Nat.le_refl _) (by omega) (aw_sub [2, 3, 4, 5, 6] rfl k)
      · replace k := k.2 c
        refine aw_iconst (v := 0) dL_law_3110 rfl (by decide) ?_
        exact aw_zret dL_law_3111 rfl (by decide) k
  · replace k := k.2 c
    refine aw_iconst (v := 0) dL_law_3093 rfl (by decide) ?_
    exact aw_zret dL_law_3094 rfl (by decide) k
set_option maxHeartbeats 4000000 in
set_option maxRecDepth 100000 in
theorem vc_L_law_3115 {nS : Nat} {sc : Nat → Int32} {d rb : Nat} {h : Hp} {Qr : Option AV → Hp → Prop} {Qx : String → Hp → Prop} {x4 : Int32} (k : (vp_in (x4 + 1) nS) ∧ CL 0 d mX11_formattedByte [vR 11 0, vI (sc (x4 + 1).toNatClampNeg)] h (oI fun r2 h1 => (vp_in (x4 + 1) nS) ∧ CL 0 d mX12_formattedByte [vR 12 0, vI (sc (x4 + 1).toNatClampNeg)] h1 (oI fun r4 h3 => ((r2 = r4) → AW (oa_X nS sc) (d + 1) rb mL_law 3140 [(0, vR 2000 0), (1, vR 11 0), (2, vR 12 0), (3, vR 66 0), (4, vI x4)] [] h3 Qr Qx) ∧ ((¬ r2 = r4) → Qr (some (vI 0)) h3)) Qx) Qx) : AW (oa_X nS sc) (d + 1) (rb + 1) mL_law 3115 [(0, vR 2000 0), (1, vR 11 0), (2, vR 12 0), (3, vR 66 0), (4, vI x4)] [] h Qr Qx := by
  refine aw_aload_n (j := 1) (i := 1) dL_law_3115 rfl rfl rfl ?_
  refine aw_aload_n (j := 0) (i := 0) dL_law_3116 rfl rfl rfl ?_
  refine aw_iload (j := 4) (i := 4) dL_law_3117 rfl rfl ?_
  refine aw_iconst (v := 1) dL_law_3119 rfl (by decide) ?_
  refine aw_iadd dL_law_3120 rfl ?_
  refine aw_sldX dL_law_3121 rfl k.1 ?_
  replace k := k.2
  refine aw_callV (M' := mX11_formattedByte) (S := []) (as := [vI (sc (x4 + 1).toNatClampNeg)]) (k := 0) dL_law_3122 rfl (by decide) rfl rfl gh_726 gh_727 gh_728 mb_X11_formattedByte rfl (Nat.zero_le _) (Nat.le_of_ble_eq_true rfl) rfl (CL.imp k (fun _ h1 k => ?_) (fun _ _ k => k))
  obtain ⟨r2, rfl, k⟩ := oI_of k
  show AW (oa_X nS sc) (d + 1) _ mL_law 3125 _ [vI r2] h1 Qr Qx
  refine aw_aload_n (j := 2) (i := 2) dL_law_3125 rfl rfl rfl ?_
  refine aw_aload_n (j := 0) (i := 0) dL_law_3126 rfl rfl rfl ?_
  refine aw_iload (j := 4) (i := 4) dL_law_3127 rfl rfl ?_
  refine aw_iconst (v := 1) dL_law_3129 rfl (by decide) ?_
  refine aw_iadd dL_law_3130 rfl ?_
  refine aw_sldX dL_law_3131 rfl k.1 ?_
  replace k := k.2
  refine aw_callV (M' := mX12_formattedByte) (S := [vI r2]) (as := [vI (sc (x4 + 1).toNatClampNeg)]) (k := 0) dL_law_3132 rfl (by decide) rfl rfl gh_2112 gh_2113 gh_2114 mb_X12_formattedByte rfl (Nat.zero_le _) (Nat.le_of_ble_eq_true rfl) rfl (CL.imp k (fun _ h3 k => ?_) (fun _ _ k => k))
  obtain ⟨r4, rfl, k⟩ := oI_of k
  show AW (oa_X nS sc) (d + 1) _ mL_law 3135 _ [vI r4, vI r2] h3 Qr Qx
  refine aw_icmp_eq 3140 dL_law_3135 rfl rfl (fun c => ?_) (fun c => ?_)
  · replace k := k.1 c
    exact AW.mono (Nat.le_refl _) (by omega) (aw_sub [0, 1, 2, 3, 4] rfl k)
  · replace k := k.2 c
    refine aw_iconst (v := 0) dL_law_3138 rfl (by decide) ?_
    exact aw_zret dL_law_3139 rfl (by decide) k
