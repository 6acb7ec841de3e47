/-! making the objects: more words (ctor2.py) -/
theorem gi_86 : (Cond.initialized RX11) ∈ oa_GT := oa_g1 1 rfl rfl
theorem gi_87 : (Cond.initialized RX7) ∈ oa_GT := oa_g1 2 rfl rfl
theorem gi_95 : (Cond.initialized RX3) ∈ oa_GT := oa_g1 10 rfl rfl
theorem gi_96 : (Cond.initialized RX0) ∈ oa_GT := oa_g1 11 rfl rfl
theorem gi_97 : (Cond.initialized RX2) ∈ oa_GT := oa_g1 12 rfl rfl
theorem gi_98 : (Cond.initialized RX12) ∈ oa_GT := oa_g1 13 rfl rfl
theorem gi_112 : (Cond.classLink RL 8 RX11) ∈ oa_GT := oa_g1 27 rfl rfl
theorem gi_113 : (Cond.instantiable RX11 8) ∈ oa_GT := oa_g1 28 rfl rfl
theorem gi_114 : (Cond.methodLink RL 143 yX11_init) ∈ oa_GT := oa_g1 29 rfl rfl
theorem gi_115 : (Cond.instanceMethod yX11_init) ∈ oa_GT := oa_g1 30 rfl rfl
theorem gi_116 : (oa_cw mX11_init) ∈ oa_GT := oa_g1 31 rfl rfl
theorem gi_117 : (Cond.methodLink RX11 1 objectInit) ∈ oa_GT := oa_g1 32 rfl rfl
theorem gi_120 : (Cond.classLink RX11 7 RX7) ∈ oa_GT := oa_g1 35 rfl rfl
theorem gi_121 : (Cond.instantiable RX7 5) ∈ oa_GT := oa_g1 36 rfl rfl
theorem gi_123 : (Cond.instanceMethod yX7_init) ∈ oa_GT := oa_g1 38 rfl rfl
theorem gi_124 : (oa_cw mX7_init) ∈ oa_GT := oa_g1 39 rfl rfl
theorem gi_153 : (Cond.fieldLink RX11 20 (TX9 2).1 (TX9 2).2.1 (TX9 2).2.2.1) ∈ oa_GT := oa_g1 68 rfl rfl
theorem gi_342 : (Cond.fieldLink RX11 16 (TX7 2).1 (TX7 2).2.1 (TX7 2).2.2.1) ∈ oa_GT := oa_g2 17 rfl rfl
theorem gi_356 : (Cond.classLink RX11 29 RX3) ∈ oa_GT := oa_g2 31 rfl rfl
theorem gi_357 : (Cond.instantiable RX3 3) ∈ oa_GT := oa_g2 32 rfl rfl
theorem gi_358 : (Cond.methodLink RX11 31 yX3_init) ∈ oa_GT := oa_g2 33 rfl rfl
theorem gi_359 : (Cond.instanceMethod yX3_init) ∈ oa_GT := oa_g2 34 rfl rfl
theorem gi_360 : (oa_cw mX3_init) ∈ oa_GT := oa_g2 35 rfl rfl
theorem gi_361 : (Cond.methodLink RX3 3 objectInit) ∈ oa_GT := oa_g2 36 rfl rfl
theorem gi_362 : (Cond.classLink RX3 9 RX5) ∈ oa_GT := oa_g2 37 rfl rfl
theorem gi_368 : (Cond.fieldLink RX3 11 (TX3 2).1 (TX3 2).2.1 (TX3 2).2.2.1) ∈ oa_GT := oa_g2 43 rfl rfl
theorem gi_376 : (Cond.classLink RX11 36 RX0) ∈ oa_GT := oa_g2 51 rfl rfl
theorem gi_377 : (Cond.instantiable RX0 6) ∈ oa_GT := oa_g2 52 rfl rfl
theorem gi_379 : (Cond.instanceMethod yX0_init) ∈ oa_GT := oa_g2 54 rfl rfl
theorem gi_380 : (oa_cw mX0_init) ∈ oa_GT := oa_g2 55 rfl rfl
theorem gi_401 : (Cond.classLink RX11 43 RX2) ∈ oa_GT := oa_g2 76 rfl rfl
theorem gi_402 : (Cond.instantiable RX2 2) ∈ oa_GT := oa_g2 77 rfl rfl
theorem gi_404 : (Cond.instanceMethod yX2_init) ∈ oa_GT := oa_g2 79 rfl rfl
theorem gi_405 : (oa_cw mX2_init) ∈ oa_GT := oa_g2 80 rfl rfl
theorem gi_415 : (Cond.classLink RX11 54 RX1) ∈ oa_GT := oa_g2 90 rfl rfl
theorem gi_417 : (Cond.classLink RX11 61 RX5) ∈ oa_GT := oa_g2 92 rfl rfl
theorem gi_419 : (Cond.methodLink RX11 68 yX1_addRung) ∈ oa_GT := oa_g2 94 rfl rfl
theorem gi_423 : (Cond.fieldLink RX11 10 (TX11 0).1 (TX11 0).2.1 (TX11 0).2.2.1) ∈ oa_GT := oa_g2 98 rfl rfl
theorem gi_424 : (Cond.fieldLink RX11 26 (TX11 1).1 (TX11 1).2.1 (TX11 1).2.2.1) ∈ oa_GT := oa_g2 99 rfl rfl
theorem gi_425 : (Cond.fieldLink RX11 32 (TX11 2).1 (TX11 2).2.1 (TX11 2).2.2.1) ∈ oa_GT := oa_g2 100 rfl rfl
theorem gi_426 : (Cond.fieldLink RX11 39 (TX11 3).1 (TX11 3).2.1 (TX11 3).2.2.1) ∈ oa_GT := oa_g2 101 rfl rfl
theorem gi_427 : (Cond.fieldLink RX11 46 (TX11 4).1 (TX11 4).2.1 (TX11 4).2.2.1) ∈ oa_GT := oa_g2 102 rfl rfl
theorem gi_428 : (Cond.fieldLink RX11 50 (TX11 5).1 (TX11 5).2.1 (TX11 5).2.2.1) ∈ oa_GT := oa_g2 103 rfl rfl
theorem gi_429 : (Cond.fieldLink RX11 57 (TX11 6).1 (TX11 6).2.1 (TX11 6).2.2.1) ∈ oa_GT := oa_g2 104 rfl rfl
theorem gi_430 : (Cond.fieldLink RX11 64 (TX11 7).1 (TX11 7).2.1 (TX11 7).2.2.1) ∈ oa_GT := oa_g2 105 rfl rfl
theorem gi_1580 : (Cond.classLink RL 144 RX12) ∈ oa_GT := oa_g7 55 rfl rfl
theorem gi_1581 : (Cond.instantiable RX12 25) ∈ oa_GT := oa_g7 56 rfl rfl
theorem gi_1582 : (Cond.methodLink RL 146 yX12_init) ∈ oa_GT := oa_g7 57 rfl rfl
theorem gi_1583 : (Cond.instanceMethod yX12_init) ∈ oa_GT := oa_g7 58 rfl rfl
theorem gi_1584 : (oa_cw mX12_init) ∈ oa_GT := oa_g7 59 rfl rfl
theorem gi_1585 : (Cond.methodLink RX12 76 objectInit) ∈ oa_GT := oa_g7 60 rfl rfl
theorem gi_1595 : (Cond.fieldLink RX12 14 (TX12 1).1 (TX12 1).2.1 (TX12 1).2.2.1) ∈ oa_GT := oa_g7 70 rfl rfl
theorem gi_1596 : (Cond.fieldLink RX12 10 (TX12 2).1 (TX12 2).2.1 (TX12 2).2.2.1) ∈ oa_GT := oa_g7 71 rfl rfl
theorem gi_1603 : (Cond.fieldLink RX12 18 (TX12 9).1 (TX12 9).2.1 (TX12 9).2.2.1) ∈ oa_GT := oa_g7 78 rfl rfl
theorem gi_1605 : (Cond.fieldLink RX12 81 (TX12 11).1 (TX12 11).2.1 (TX12 11).2.2.1) ∈ oa_GT := oa_g7 80 rfl rfl
theorem gi_1606 : (Cond.fieldLink RX12 84 (TX12 12).1 (TX12 12).2.1 (TX12 12).2.2.1) ∈ oa_GT := oa_g7 81 rfl rfl
theorem gi_1608 : (Cond.fieldLink RX12 87 (TX12 14).1 (TX12 14).2.1 (TX12 14).2.2.1) ∈ oa_GT := oa_g7 83 rfl rfl
theorem gi_1609 : (Cond.fieldLink RX12 90 (TX12 15).1 (TX12 15).2.1 (TX12 15).2.2.1) ∈ oa_GT := oa_g7 84 rfl rfl
theorem gi_1611 : (Cond.fieldLink RX12 93 (TX12 17).1 (TX12 17).2.1 (TX12 17).2.2.1) ∈ oa_GT := oa_g7 86 rfl rfl
theorem gi_1612 : (Cond.fieldLink RX12 96 (TX12 18).1 (TX12 18).2.1 (TX12 18).2.2.1) ∈ oa_GT := oa_g7 87 rfl rfl
theorem gi_1613 : (Cond.fieldLink RX12 99 (TX12 19).1 (TX12 19).2.1 (TX12 19).2.2.1) ∈ oa_GT := oa_g7 88 rfl rfl
theorem gi_1614 : (Cond.fieldLink RX12 102 (TX12 20).1 (TX12 20).2.1 (TX12 20).2.2.1) ∈ oa_GT := oa_g7 89 rfl rfl
theorem gi_1615 : (Cond.fieldLink RX12 105 (TX12 21).1 (TX12 21).2.1 (TX12 21).2.2.1) ∈ oa_GT := oa_g7 90 rfl rfl
theorem gi_1617 : (Cond.fieldLink RX12 108 (TX12 23).1 (TX12 23).2.1 (TX12 23).2.2.1) ∈ oa_GT := oa_g7 92 rfl rfl
theorem ni_122 : (Cond.methodLinkNest RX11 9 yX7_init "OrderAssembler") ∈ lw_tbl := List.mem_of_getElem? (i := 122) (by decide +kernel)
theorem ni_363 : (Cond.arrayOver (.object "OrderAssembler$Ledger")) ∈ lw_tbl := List.mem_of_getElem? (i := 363) (by decide +kernel)
theorem ni_364 : (Cond.methodLinkNest RX3 17 yX5_init "OrderAssembler") ∈ lw_tbl := List.mem_of_getElem? (i := 364) (by decide +kernel)
theorem ni_378 : (Cond.methodLinkNest RX11 38 yX0_init "OrderAssembler") ∈ lw_tbl := List.mem_of_getElem? (i := 378) (by decide +kernel)
theorem ni_403 : (Cond.methodLinkNest RX11 45 yX2_init "OrderAssembler") ∈ lw_tbl := List.mem_of_getElem? (i := 403) (by decide +kernel)
theorem ni_416 : (Cond.methodLinkNest RX11 56 yX1_init "OrderAssembler") ∈ lw_tbl := List.mem_of_getElem? (i := 416) (by decide +kernel)
theorem ni_418 : (Cond.methodLinkNest RX11 63 yX5_init "OrderAssembler") ∈ lw_tbl := List.mem_of_getElem? (i := 418) (by decide +kernel)
