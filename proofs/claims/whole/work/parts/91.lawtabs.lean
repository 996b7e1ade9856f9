theorem dl_0 : decode code 0 = .ok (.new 7, 3) := by decide +kernel
theorem dl_3 : decode code 3 = .ok (.dup, 1) := by decide +kernel
theorem dl_4 : decode code 4 = .ok (.invokespecial 9, 3) := by decide +kernel
theorem dl_7 : decode code 7 = .ok (.astore_n 1, 1) := by decide +kernel
theorem dl_8 : decode code 8 = .ok (.new 10, 3) := by decide +kernel
theorem dl_11 : decode code 11 = .ok (.dup, 1) := by decide +kernel
theorem dl_12 : decode code 12 = .ok (.invokespecial 12, 3) := by decide +kernel
theorem dl_15 : decode code 15 = .ok (.astore_n 2, 1) := by decide +kernel
theorem dl_16 : decode code 16 = .ok (.iconst 0, 1) := by decide +kernel
theorem dl_17 : decode code 17 = .ok (.istore_n 3, 1) := by decide +kernel
theorem dl_18 : decode code 18 = .ok (.iload_n 3, 1) := by decide +kernel
theorem dl_19 : decode code 19 = .ok (.aload_n 0, 1) := by decide +kernel
theorem dl_20 : decode code 20 = .ok (.arraylength, 1) := by decide +kernel
theorem dl_21 : decode code 21 = .ok (.bipush 6, 2) := by decide +kernel
theorem dl_23 : decode code 23 = .ok (.isub, 1) := by decide +kernel
theorem dl_24 : decode code 24 = .ok (.if_icmp .gt 1033, 3) := by decide +kernel
theorem dl_27 : decode code 27 = .ok (.aload_n 0, 1) := by decide +kernel
theorem dl_28 : decode code 28 = .ok (.iload_n 3, 1) := by decide +kernel
theorem dl_29 : decode code 29 = .ok (.iaload, 1) := by decide +kernel
theorem dl_30 : decode code 30 = .ok (.bipush 31, 2) := by decide +kernel
theorem dl_32 : decode code 32 = .ok (.iand, 1) := by decide +kernel
theorem dl_33 : decode code 33 = .ok (.tableswitch 1018 0 24 #[115, 138, 191, 224, 257, 316, 369, 402, 435, 499, 553, 587, 626, 650, 683, 726, 759, 782, 806, 819, 852, 885, 928, 962, 995], 115) := by decide +kernel
theorem dl_1051 : decode code 1051 = .ok (.iinc 3 6, 3) := by decide +kernel
theorem dl_1054 : decode code 1054 = .ok (.goto (-1036), 3) := by decide +kernel
theorem dl_1057 : decode code 1057 = .ok (.iconst 1, 1) := by decide +kernel
theorem dl_1058 : decode code 1058 = .ok (.ireturn, 1) := by decide +kernel
set_option maxRecDepth 100000 in
theorem lc_wX8_init : lj_cw mt_X8_init 9 0 := ⟨⟨ds_T_of (i := 60) rfl rfl, ds_wb_T (p := 42) (by decide +kernel), by decide +kernel⟩, ⟨(Nat.le_of_ble_eq_true rfl), (Nat.le_of_ble_eq_true rfl)⟩, ds_wb_T (p := 58) (by decide +kernel), ds_wb_T (p := 59) (by decide +kernel)⟩
set_option maxRecDepth 100000 in
theorem lc_wX9_init : lj_cw mt_X9_init 12 0 := ⟨⟨ds_T_of (i := 727) rfl rfl, ds_wb_T (p := 51) (by decide +kernel), by decide +kernel⟩, ⟨(Nat.le_of_ble_eq_true rfl), (Nat.le_of_ble_eq_true rfl)⟩, ds_wb_T (p := 725) (by decide +kernel), ds_wb_T (p := 726) (by decide +kernel)⟩
set_option maxRecDepth 100000 in
theorem lc_c8 : Cond.classLink R_law 7 RX8 ∈ ds_T := ds_wb_T (p := 56) (by decide +kernel)
set_option maxRecDepth 100000 in
theorem lc_c9 : Cond.classLink R_law 10 RX9 ∈ ds_T := ds_wb_T (p := 723) (by decide +kernel)
theorem dl_148 : decode code 148 = .ok (.aload_n 1, 1) := by decide +kernel
theorem ka_149 : lj_ka 149 1 := by unfold lj_ka; decide +kernel
theorem ka_158 : lj_ka 158 1 := by unfold lj_ka; decide +kernel
set_option maxRecDepth 100000 in
theorem lc_wX8_boxes : lj_cw mt_X8_boxes 13 1 := ⟨⟨ds_T_of (i := 356) rfl rfl, ds_wb_T (p := 42) (by decide +kernel), by decide +kernel⟩, ⟨(Nat.le_of_ble_eq_true rfl), (Nat.le_of_ble_eq_true rfl)⟩, ds_wb_T (p := 353) (by decide +kernel), ds_wb_T (p := 354) (by decide +kernel)⟩
set_option maxRecDepth 100000 in
theorem lc_sX8_boxes : Cond.selects mt_X8_boxes.1.cls mt_X8_boxes.1 mt_X8_boxes.1 ∈ ds_T := ds_wb_T (p := 355) (by decide +kernel)
set_option maxRecDepth 100000 in
theorem lc_wX9_boxes : lj_cw mt_X9_boxes 17 1 := ⟨⟨ds_T_of (i := 833) rfl rfl, ds_wb_T (p := 51) (by decide +kernel), by decide +kernel⟩, ⟨(Nat.le_of_ble_eq_true rfl), (Nat.le_of_ble_eq_true rfl)⟩, ds_wb_T (p := 830) (by decide +kernel), ds_wb_T (p := 831) (by decide +kernel)⟩
set_option maxRecDepth 100000 in
theorem lc_sX9_boxes : Cond.selects mt_X9_boxes.1.cls mt_X9_boxes.1 mt_X9_boxes.1 ∈ ds_T := ds_wb_T (p := 832) (by decide +kernel)
theorem dl_154 : decode code 154 = .ok (.invokevirtual 13, 3) := by decide +kernel
theorem dl_157 : decode code 157 = .ok (.aload_n 2, 1) := by decide +kernel
theorem dl_163 : decode code 163 = .ok (.invokevirtual 17, 3) := by decide +kernel
theorem dl_166 : decode code 166 = .ok (.if_icmp .eq 885, 3) := by decide +kernel
theorem dl_171 : decode code 171 = .ok (.aload_n 1, 1) := by decide +kernel
theorem ka_172 : lj_ka 172 1 := by unfold lj_ka; decide +kernel
theorem ka_177 : lj_ka 177 2 := by unfold lj_ka; decide +kernel
theorem ka_182 : lj_ka 182 3 := by unfold lj_ka; decide +kernel
theorem ka_187 : lj_ka 187 4 := by unfold lj_ka; decide +kernel
theorem ka_196 : lj_ka 196 1 := by unfold lj_ka; decide +kernel
theorem ka_201 : lj_ka 201 2 := by unfold lj_ka; decide +kernel
theorem ka_206 : lj_ka 206 3 := by unfold lj_ka; decide +kernel
theorem ka_211 : lj_ka 211 4 := by unfold lj_ka; decide +kernel
set_option maxRecDepth 100000 in
theorem lc_wX8_line : lj_cw mt_X8_line 18 4 := ⟨⟨ds_T_of (i := 371) rfl rfl, ds_wb_T (p := 42) (by decide +kernel), by decide +kernel⟩, ⟨(Nat.le_of_ble_eq_true rfl), (Nat.le_of_ble_eq_true rfl)⟩, ds_wb_T (p := 368) (by decide +kernel), ds_wb_T (p := 369) (by decide +kernel)⟩
set_option maxRecDepth 100000 in
theorem lc_sX8_line : Cond.selects mt_X8_line.1.cls mt_X8_line.1 mt_X8_line.1 ∈ ds_T := ds_wb_T (p := 370) (by decide +kernel)
set_option maxRecDepth 100000 in
theorem lc_wX9_line : lj_cw mt_X9_line 22 4 := ⟨⟨ds_T_of (i := 842) rfl rfl, ds_wb_T (p := 51) (by decide +kernel), by decide +kernel⟩, ⟨(Nat.le_of_ble_eq_true rfl), (Nat.le_of_ble_eq_true rfl)⟩, ds_wb_T (p := 839) (by decide +kernel), ds_wb_T (p := 840) (by decide +kernel)⟩
set_option maxRecDepth 100000 in
theorem lc_sX9_line : Cond.selects mt_X9_line.1.cls mt_X9_line.1 mt_X9_line.1 ∈ ds_T := ds_wb_T (p := 841) (by decide +kernel)
theorem dl_192 : decode code 192 = .ok (.invokevirtual 18, 3) := by decide +kernel
theorem dl_195 : decode code 195 = .ok (.aload_n 2, 1) := by decide +kernel
theorem dl_216 : decode code 216 = .ok (.invokevirtual 22, 3) := by decide +kernel
theorem dl_219 : decode code 219 = .ok (.if_icmp .eq 832, 3) := by decide +kernel
theorem dl_224 : decode code 224 = .ok (.aload_n 1, 1) := by decide +kernel
theorem ka_225 : lj_ka 225 1 := by unfold lj_ka; decide +kernel
theorem ka_230 : lj_ka 230 2 := by unfold lj_ka; decide +kernel
theorem ka_239 : lj_ka 239 1 := by unfold lj_ka; decide +kernel
theorem ka_244 : lj_ka 244 2 := by unfold lj_ka; decide +kernel
set_option maxRecDepth 100000 in
theorem lc_wX8_about : lj_cw mt_X8_about 23 2 := ⟨⟨ds_T_of (i := 390) rfl rfl, ds_wb_T (p := 42) (by decide +kernel), by decide +kernel⟩, ⟨(Nat.le_of_ble_eq_true rfl), (Nat.le_of_ble_eq_true rfl)⟩, ds_wb_T (p := 387) (by decide +kernel), ds_wb_T (p := 388) (by decide +kernel)⟩
set_option maxRecDepth 100000 in
theorem lc_sX8_about : Cond.selects mt_X8_about.1.cls mt_X8_about.1 mt_X8_about.1 ∈ ds_T := ds_wb_T (p := 389) (by decide +kernel)
set_option maxRecDepth 100000 in
theorem lc_wX9_about : lj_cw mt_X9_about 27 2 := ⟨⟨ds_T_of (i := 852) rfl rfl, ds_wb_T (p := 51) (by decide +kernel), by decide +kernel⟩, ⟨(Nat.le_of_ble_eq_true rfl), (Nat.le_of_ble_eq_true rfl)⟩, ds_wb_T (p := 849) (by decide +kernel), ds_wb_T (p := 850) (by decide +kernel)⟩
set_option maxRecDepth 100000 in
theorem lc_sX9_about : Cond.selects mt_X9_about.1.cls mt_X9_about.1 mt_X9_about.1 ∈ ds_T := ds_wb_T (p := 851) (by decide +kernel)
theorem dl_235 : decode code 235 = .ok (.invokevirtual 23, 3) := by decide +kernel
theorem dl_238 : decode code 238 = .ok (.aload_n 2, 1) := by decide +kernel
theorem dl_249 : decode code 249 = .ok (.invokevirtual 27, 3) := by decide +kernel
theorem dl_252 : decode code 252 = .ok (.if_icmp .eq 799, 3) := by decide +kernel
theorem dl_257 : decode code 257 = .ok (.aload_n 1, 1) := by decide +kernel
theorem ka_258 : lj_ka 258 1 := by unfold lj_ka; decide +kernel
theorem ka_263 : lj_ka 263 2 := by unfold lj_ka; decide +kernel
theorem ka_272 : lj_ka 272 1 := by unfold lj_ka; decide +kernel
theorem ka_277 : lj_ka 277 2 := by unfold lj_ka; decide +kernel
set_option maxRecDepth 100000 in
theorem lc_wX8_weigh : lj_cw mt_X8_weigh 28 2 := ⟨⟨ds_T_of (i := 401) rfl rfl, ds_wb_T (p := 42) (by decide +kernel), by decide +kernel⟩, ⟨(Nat.le_of_ble_eq_true rfl), (Nat.le_of_ble_eq_true rfl)⟩, ds_wb_T (p := 398) (by decide +kernel), ds_wb_T (p := 399) (by decide +kernel)⟩
set_option maxRecDepth 100000 in
theorem lc_sX8_weigh : Cond.selects mt_X8_weigh.1.cls mt_X8_weigh.1 mt_X8_weigh.1 ∈ ds_T := ds_wb_T (p := 400) (by decide +kernel)
set_option maxRecDepth 100000 in
theorem lc_wX9_weigh : lj_cw mt_X9_weigh 31 2 := ⟨⟨ds_T_of (i := 860) rfl rfl, ds_wb_T (p := 51) (by decide +kernel), by decide +kernel⟩, ⟨(Nat.le_of_ble_eq_true rfl), (Nat.le_of_ble_eq_true rfl)⟩, ds_wb_T (p := 857) (by decide +kernel), ds_wb_T (p := 858) (by decide +kernel)⟩
set_option maxRecDepth 100000 in
theorem lc_sX9_weigh : Cond.selects mt_X9_weigh.1.cls mt_X9_weigh.1 mt_X9_weigh.1 ∈ ds_T := ds_wb_T (p := 859) (by decide +kernel)
theorem dl_268 : decode code 268 = .ok (.invokevirtual 28, 3) := by decide +kernel
theorem dl_271 : decode code 271 = .ok (.aload_n 2, 1) := by decide +kernel
theorem dl_282 : decode code 282 = .ok (.invokevirtual 31, 3) := by decide +kernel
theorem dl_285 : decode code 285 = .ok (.if_icmp .eq 766, 3) := by decide +kernel
theorem dl_290 : decode code 290 = .ok (.aload_n 1, 1) := by decide +kernel
theorem ka_291 : lj_ka 291 1 := by unfold lj_ka; decide +kernel
theorem ka_296 : lj_ka 296 2 := by unfold lj_ka; decide +kernel
theorem ka_301 : lj_ka 301 3 := by unfold lj_ka; decide +kernel
theorem kz_306 : lj_kz 306 := by unfold lj_kz; decide +kernel
theorem ka_318 : lj_ka 318 1 := by unfold lj_ka; decide +kernel
theorem ka_323 : lj_ka 323 2 := by unfold lj_ka; decide +kernel
theorem ka_328 : lj_ka 328 3 := by unfold lj_ka; decide +kernel
theorem kz_333 : lj_kz 333 := by unfold lj_kz; decide +kernel
set_option maxRecDepth 100000 in
theorem lc_wX8_mark : lj_cw mt_X8_mark 32 3 := ⟨⟨ds_T_of (i := 405) rfl rfl, ds_wb_T (p := 42) (by decide +kernel), by decide +kernel⟩, ⟨(Nat.le_of_ble_eq_true rfl), (Nat.le_of_ble_eq_true rfl)⟩, ds_wb_T (p := 402) (by decide +kernel), ds_wb_T (p := 403) (by decide +kernel)⟩
set_option maxRecDepth 100000 in
theorem lc_sX8_mark : Cond.selects mt_X8_mark.1.cls mt_X8_mark.1 mt_X8_mark.1 ∈ ds_T := ds_wb_T (p := 404) (by decide +kernel)
set_option maxRecDepth 100000 in
theorem lc_wX9_mark : lj_cw mt_X9_mark 36 3 := ⟨⟨ds_T_of (i := 864) rfl rfl, ds_wb_T (p := 51) (by decide +kernel), by decide +kernel⟩, ⟨(Nat.le_of_ble_eq_true rfl), (Nat.le_of_ble_eq_true rfl)⟩, ds_wb_T (p := 861) (by decide +kernel), ds_wb_T (p := 862) (by decide +kernel)⟩
set_option maxRecDepth 100000 in
theorem lc_sX9_mark : Cond.selects mt_X9_mark.1.cls mt_X9_mark.1 mt_X9_mark.1 ∈ ds_T := ds_wb_T (p := 863) (by decide +kernel)
theorem dl_314 : decode code 314 = .ok (.invokevirtual 32, 3) := by decide +kernel
theorem dl_317 : decode code 317 = .ok (.aload_n 2, 1) := by decide +kernel
theorem dl_341 : decode code 341 = .ok (.invokevirtual 36, 3) := by decide +kernel
theorem dl_344 : decode code 344 = .ok (.if_icmp .eq 707, 3) := by decide +kernel
theorem dl_349 : decode code 349 = .ok (.aload_n 1, 1) := by decide +kernel
theorem ka_350 : lj_ka 350 1 := by unfold lj_ka; decide +kernel
theorem ka_355 : lj_ka 355 2 := by unfold lj_ka; decide +kernel
theorem ka_360 : lj_ka 360 3 := by unfold lj_ka; decide +kernel
theorem ka_365 : lj_ka 365 4 := by unfold lj_ka; decide +kernel
theorem ka_374 : lj_ka 374 1 := by unfold lj_ka; decide +kernel
theorem ka_379 : lj_ka 379 2 := by unfold lj_ka; decide +kernel
theorem ka_384 : lj_ka 384 3 := by unfold lj_ka; decide +kernel
theorem ka_389 : lj_ka 389 4 := by unfold lj_ka; decide +kernel
set_option maxRecDepth 100000 in
theorem lc_wX8_load : lj_cw mt_X8_load 37 4 := ⟨⟨ds_T_of (i := 415) rfl rfl, ds_wb_T (p := 42) (by decide +kernel), by decide +kernel⟩, ⟨(Nat.le_of_ble_eq_true rfl), (Nat.le_of_ble_eq_true rfl)⟩, ds_wb_T (p := 412) (by decide +kernel), ds_wb_T (p := 413) (by decide +kernel)⟩
set_option maxRecDepth 100000 in
theorem lc_sX8_load : Cond.selects mt_X8_load.1.cls mt_X8_load.1 mt_X8_load.1 ∈ ds_T := ds_wb_T (p := 414) (by decide +kernel)
set_option maxRecDepth 100000 in
theorem lc_wX9_load : lj_cw mt_X9_load 40 4 := ⟨⟨ds_T_of (i := 868) rfl rfl, ds_wb_T (p := 51) (by decide +kernel), by decide +kernel⟩, ⟨(Nat.le_of_ble_eq_true rfl), (Nat.le_of_ble_eq_true rfl)⟩, ds_wb_T (p := 865) (by decide +kernel), ds_wb_T (p := 866) (by decide +kernel)⟩
set_option maxRecDepth 100000 in
theorem lc_sX9_load : Cond.selects mt_X9_load.1.cls mt_X9_load.1 mt_X9_load.1 ∈ ds_T := ds_wb_T (p := 867) (by decide +kernel)
theorem dl_370 : decode code 370 = .ok (.invokevirtual 37, 3) := by decide +kernel
theorem dl_373 : decode code 373 = .ok (.aload_n 2, 1) := by decide +kernel
theorem dl_394 : decode code 394 = .ok (.invokevirtual 40, 3) := by decide +kernel
theorem dl_397 : decode code 397 = .ok (.if_icmp .eq 654, 3) := by decide +kernel
theorem dl_402 : decode code 402 = .ok (.aload_n 1, 1) := by decide +kernel
theorem ka_403 : lj_ka 403 1 := by unfold lj_ka; decide +kernel
theorem ka_408 : lj_ka 408 2 := by unfold lj_ka; decide +kernel
theorem ka_417 : lj_ka 417 1 := by unfold lj_ka; decide +kernel
theorem ka_422 : lj_ka 422 2 := by unfold lj_ka; decide +kernel
set_option maxRecDepth 100000 in
theorem lc_wX8_least : lj_cw mt_X8_least 41 2 := ⟨⟨ds_T_of (i := 425) rfl rfl, ds_wb_T (p := 42) (by decide +kernel), by decide +kernel⟩, ⟨(Nat.le_of_ble_eq_true rfl), (Nat.le_of_ble_eq_true rfl)⟩, ds_wb_T (p := 422) (by decide +kernel), ds_wb_T (p := 423) (by decide +kernel)⟩
set_option maxRecDepth 100000 in
theorem lc_sX8_least : Cond.selects mt_X8_least.1.cls mt_X8_least.1 mt_X8_least.1 ∈ ds_T := ds_wb_T (p := 424) (by decide +kernel)
set_option maxRecDepth 100000 in
theorem lc_wX9_least : lj_cw mt_X9_least 44 2 := ⟨⟨ds_T_of (i := 880) rfl rfl, ds_wb_T (p := 51) (by decide +kernel), by decide +kernel⟩, ⟨(Nat.le_of_ble_eq_true rfl), (Nat.le_of_ble_eq_true rfl)⟩, ds_wb_T (p := 877) (by decide +kernel), ds_wb_T (p := 878) (by decide +kernel)⟩
set_option maxRecDepth 100000 in
theorem lc_sX9_least : Cond.selects mt_X9_least.1.cls mt_X9_least.1 mt_X9_least.1 ∈ ds_T := ds_wb_T (p := 879) (by decide +kernel)
theorem dl_413 : decode code 413 = .ok (.invokevirtual 41, 3) := by decide +kernel
theorem dl_416 : decode code 416 = .ok (.aload_n 2, 1) := by decide +kernel
theorem dl_427 : decode code 427 = .ok (.invokevirtual 44, 3) := by decide +kernel
theorem dl_430 : decode code 430 = .ok (.if_icmp .eq 621, 3) := by decide +kernel
theorem dl_435 : decode code 435 = .ok (.aload_n 1, 1) := by decide +kernel
theorem ka_436 : lj_ka 436 1 := by unfold lj_ka; decide +kernel
theorem ka_441 : lj_ka 441 2 := by unfold lj_ka; decide +kernel
theorem ka_450 : lj_ka 450 1 := by unfold lj_ka; decide +kernel
theorem ka_455 : lj_ka 455 2 := by unfold lj_ka; decide +kernel
set_option maxRecDepth 100000 in
theorem lc_wX8_next : lj_cw mt_X8_next 45 2 := ⟨⟨ds_T_of (i := 455) rfl rfl, ds_wb_T (p := 42) (by decide +kernel), by decide +kernel⟩, ⟨(Nat.le_of_ble_eq_true rfl), (Nat.le_of_ble_eq_true rfl)⟩, ds_wb_T (p := 452) (by decide +kernel), ds_wb_T (p := 453) (by decide +kernel)⟩
set_option maxRecDepth 100000 in
theorem lc_sX8_next : Cond.selects mt_X8_next.1.cls mt_X8_next.1 mt_X8_next.1 ∈ ds_T := ds_wb_T (p := 454) (by decide +kernel)
set_option maxRecDepth 100000 in
theorem lc_wX9_next : lj_cw mt_X9_next 48 2 := ⟨⟨ds_T_of (i := 893) rfl rfl, ds_wb_T (p := 51) (by decide +kernel), by decide +kernel⟩, ⟨(Nat.le_of_ble_eq_true rfl), (Nat.le_of_ble_eq_true rfl)⟩, ds_wb_T (p := 890) (by decide +kernel), ds_wb_T (p := 891) (by decide +kernel)⟩
set_option maxRecDepth 100000 in
theorem lc_sX9_next : Cond.selects mt_X9_next.1.cls mt_X9_next.1 mt_X9_next.1 ∈ ds_T := ds_wb_T (p := 892) (by decide +kernel)
theorem dl_446 : decode code 446 = .ok (.invokevirtual 45, 3) := by decide +kernel
theorem dl_449 : decode code 449 = .ok (.aload_n 2, 1) := by decide +kernel
theorem dl_460 : decode code 460 = .ok (.invokevirtual 48, 3) := by decide +kernel
theorem dl_463 : decode code 463 = .ok (.if_icmp .eq 588, 3) := by decide +kernel
theorem dl_468 : decode code 468 = .ok (.aload_n 1, 1) := by decide +kernel
theorem ka_469 : lj_ka 469 1 := by unfold lj_ka; decide +kernel
theorem ka_474 : lj_ka 474 2 := by unfold lj_ka; decide +kernel
theorem ka_479 : lj_ka 479 3 := by unfold lj_ka; decide +kernel
theorem ka_484 : lj_ka 484 4 := by unfold lj_ka; decide +kernel
theorem ka_489 : lj_ka 489 5 := by unfold lj_ka; decide +kernel
theorem ka_498 : lj_ka 498 1 := by unfold lj_ka; decide +kernel
theorem ka_503 : lj_ka 503 2 := by unfold lj_ka; decide +kernel
theorem ka_508 : lj_ka 508 3 := by unfold lj_ka; decide +kernel
theorem ka_513 : lj_ka 513 4 := by unfold lj_ka; decide +kernel
theorem ka_518 : lj_ka 518 5 := by unfold lj_ka; decide +kernel
set_option maxRecDepth 100000 in
theorem lc_wX8_share : lj_cw mt_X8_share 49 5 := ⟨⟨ds_T_of (i := 459) rfl rfl, ds_wb_T (p := 42) (by decide +kernel), by decide +kernel⟩, ⟨(Nat.le_of_ble_eq_true rfl), (Nat.le_of_ble_eq_true rfl)⟩, ds_wb_T (p := 456) (by decide +kernel), ds_wb_T (p := 457) (by decide +kernel)⟩
set_option maxRecDepth 100000 in
theorem lc_sX8_share : Cond.selects mt_X8_share.1.cls mt_X8_share.1 mt_X8_share.1 ∈ ds_T := ds_wb_T (p := 458) (by decide +kernel)
set_option maxRecDepth 100000 in
theorem lc_wX9_share : lj_cw mt_X9_share 53 5 := ⟨⟨ds_T_of (i := 905) rfl rfl, ds_wb_T (p := 51) (by decide +kernel), by decide +kernel⟩, ⟨(Nat.le_of_ble_eq_true rfl), (Nat.le_of_ble_eq_true rfl)⟩, ds_wb_T (p := 902) (by decide +kernel), ds_wb_T (p := 903) (by decide +kernel)⟩
set_option maxRecDepth 100000 in
theorem lc_sX9_share : Cond.selects mt_X9_share.1.cls mt_X9_share.1 mt_X9_share.1 ∈ ds_T := ds_wb_T (p := 904) (by decide +kernel)
theorem dl_494 : decode code 494 = .ok (.invokevirtual 49, 3) := by decide +kernel
theorem dl_497 : decode code 497 = .ok (.aload_n 2, 1) := by decide +kernel
theorem dl_523 : decode code 523 = .ok (.invokevirtual 53, 3) := by decide +kernel
theorem dl_526 : decode code 526 = .ok (.lcmp, 1) := by decide +kernel
theorem dl_527 : decode code 527 = .ok (.ifCond .eq 524, 3) := by decide +kernel
theorem dl_532 : decode code 532 = .ok (.aload_n 1, 1) := by decide +kernel
theorem ka_533 : lj_ka 533 1 := by unfold lj_ka; decide +kernel
theorem ka_538 : lj_ka 538 2 := by unfold lj_ka; decide +kernel
theorem ka_543 : lj_ka 543 3 := by unfold lj_ka; decide +kernel
theorem ka_548 : lj_ka 548 4 := by unfold lj_ka; decide +kernel
theorem ka_557 : lj_ka 557 1 := by unfold lj_ka; decide +kernel
theorem ka_562 : lj_ka 562 2 := by unfold lj_ka; decide +kernel
theorem ka_567 : lj_ka 567 3 := by unfold lj_ka; decide +kernel
theorem ka_572 : lj_ka 572 4 := by unfold lj_ka; decide +kernel
set_option maxRecDepth 100000 in
theorem lc_wX8_on : lj_cw mt_X8_on 54 4 := ⟨⟨ds_T_of (i := 491) rfl rfl, ds_wb_T (p := 42) (by decide +kernel), by decide +kernel⟩, ⟨(Nat.le_of_ble_eq_true rfl), (Nat.le_of_ble_eq_true rfl)⟩, ds_wb_T (p := 488) (by decide +kernel), ds_wb_T (p := 489) (by decide +kernel)⟩
set_option maxRecDepth 100000 in
theorem lc_sX8_on : Cond.selects mt_X8_on.1.cls mt_X8_on.1 mt_X8_on.1 ∈ ds_T := ds_wb_T (p := 490) (by decide +kernel)
set_option maxRecDepth 100000 in
theorem lc_wX9_on : lj_cw mt_X9_on 58 4 := ⟨⟨ds_T_of (i := 928) rfl rfl, ds_wb_T (p := 51) (by decide +kernel), by decide +kernel⟩, ⟨(Nat.le_of_ble_eq_true rfl), (Nat.le_of_ble_eq_true rfl)⟩, ds_wb_T (p := 925) (by decide +kernel), ds_wb_T (p := 926) (by decide +kernel)⟩
set_option maxRecDepth 100000 in
theorem lc_sX9_on : Cond.selects mt_X9_on.1.cls mt_X9_on.1 mt_X9_on.1 ∈ ds_T := ds_wb_T (p := 927) (by decide +kernel)
theorem dl_553 : decode code 553 = .ok (.invokevirtual 54, 3) := by decide +kernel
theorem dl_556 : decode code 556 = .ok (.aload_n 2, 1) := by decide +kernel
theorem dl_577 : decode code 577 = .ok (.invokevirtual 58, 3) := by decide +kernel
theorem dl_580 : decode code 580 = .ok (.lcmp, 1) := by decide +kernel
theorem dl_581 : decode code 581 = .ok (.ifCond .eq 470, 3) := by decide +kernel
theorem dl_586 : decode code 586 = .ok (.aload_n 1, 1) := by decide +kernel
theorem ka_587 : lj_ka 587 1 := by unfold lj_ka; decide +kernel
theorem ka_592 : lj_ka 592 2 := by unfold lj_ka; decide +kernel
theorem ka_601 : lj_ka 601 1 := by unfold lj_ka; decide +kernel
theorem ka_606 : lj_ka 606 2 := by unfold lj_ka; decide +kernel
set_option maxRecDepth 100000 in
theorem lc_wX8_worst : lj_cw mt_X8_worst 59 2 := ⟨⟨ds_T_of (i := 513) rfl rfl, ds_wb_T (p := 42) (by decide +kernel), by decide +kernel⟩, ⟨(Nat.le_of_ble_eq_true rfl), (Nat.le_of_ble_eq_true rfl)⟩, ds_wb_T (p := 510) (by decide +kernel), ds_wb_T (p := 511) (by decide +kernel)⟩
set_option maxRecDepth 100000 in
theorem lc_sX8_worst : Cond.selects mt_X8_worst.1.cls mt_X8_worst.1 mt_X8_worst.1 ∈ ds_T := ds_wb_T (p := 512) (by decide +kernel)
set_option maxRecDepth 100000 in
theorem lc_wX9_worst : lj_cw mt_X9_worst 63 2 := ⟨⟨ds_T_of (i := 936) rfl rfl, ds_wb_T (p := 51) (by decide +kernel), by decide +kernel⟩, ⟨(Nat.le_of_ble_eq_true rfl), (Nat.le_of_ble_eq_true rfl)⟩, ds_wb_T (p := 933) (by decide +kernel), ds_wb_T (p := 934) (by decide +kernel)⟩
set_option maxRecDepth 100000 in
theorem lc_sX9_worst : Cond.selects mt_X9_worst.1.cls mt_X9_worst.1 mt_X9_worst.1 ∈ ds_T := ds_wb_T (p := 935) (by decide +kernel)
theorem dl_597 : decode code 597 = .ok (.invokevirtual 59, 3) := by decide +kernel
theorem dl_600 : decode code 600 = .ok (.aload_n 2, 1) := by decide +kernel
theorem dl_611 : decode code 611 = .ok (.invokevirtual 63, 3) := by decide +kernel
theorem dl_614 : decode code 614 = .ok (.lcmp, 1) := by decide +kernel
theorem dl_615 : decode code 615 = .ok (.ifCond .eq 436, 3) := by decide +kernel
theorem dl_620 : decode code 620 = .ok (.aload_n 1, 1) := by decide +kernel
theorem ka_621 : lj_ka 621 1 := by unfold lj_ka; decide +kernel
theorem kz_626 : lj_kz 626 := by unfold lj_kz; decide +kernel
theorem ka_638 : lj_ka 638 1 := by unfold lj_ka; decide +kernel
theorem kz_643 : lj_kz 643 := by unfold lj_kz; decide +kernel
set_option maxRecDepth 100000 in
theorem lc_wX8_guard : lj_cw mt_X8_guard 64 1 := ⟨⟨ds_T_of (i := 530) rfl rfl, ds_wb_T (p := 42) (by decide +kernel), by decide +kernel⟩, ⟨(Nat.le_of_ble_eq_true rfl), (Nat.le_of_ble_eq_true rfl)⟩, ds_wb_T (p := 527) (by decide +kernel), ds_wb_T (p := 528) (by decide +kernel)⟩
set_option maxRecDepth 100000 in
theorem lc_sX8_guard : Cond.selects mt_X8_guard.1.cls mt_X8_guard.1 mt_X8_guard.1 ∈ ds_T := ds_wb_T (p := 529) (by decide +kernel)
set_option maxRecDepth 100000 in
theorem lc_wX9_guard : lj_cw mt_X9_guard 68 1 := ⟨⟨ds_T_of (i := 949) rfl rfl, ds_wb_T (p := 51) (by decide +kernel), by decide +kernel⟩, ⟨(Nat.le_of_ble_eq_true rfl), (Nat.le_of_ble_eq_true rfl)⟩, ds_wb_T (p := 946) (by decide +kernel), ds_wb_T (p := 947) (by decide +kernel)⟩
set_option maxRecDepth 100000 in
theorem lc_sX9_guard : Cond.selects mt_X9_guard.1.cls mt_X9_guard.1 mt_X9_guard.1 ∈ ds_T := ds_wb_T (p := 948) (by decide +kernel)
theorem dl_634 : decode code 634 = .ok (.invokevirtual 64, 3) := by decide +kernel
theorem dl_637 : decode code 637 = .ok (.aload_n 2, 1) := by decide +kernel
theorem dl_651 : decode code 651 = .ok (.invokevirtual 68, 3) := by decide +kernel
theorem dl_654 : decode code 654 = .ok (.if_icmp .eq 397, 3) := by decide +kernel
theorem dl_659 : decode code 659 = .ok (.aload_n 1, 1) := by decide +kernel
theorem ka_660 : lj_ka 660 1 := by unfold lj_ka; decide +kernel
theorem ka_669 : lj_ka 669 1 := by unfold lj_ka; decide +kernel
set_option maxRecDepth 100000 in
theorem lc_wX8_all : lj_cw mt_X8_all 69 1 := ⟨⟨ds_T_of (i := 534) rfl rfl, ds_wb_T (p := 42) (by decide +kernel), by decide +kernel⟩, ⟨(Nat.le_of_ble_eq_true rfl), (Nat.le_of_ble_eq_true rfl)⟩, ds_wb_T (p := 531) (by decide +kernel), ds_wb_T (p := 532) (by decide +kernel)⟩
set_option maxRecDepth 100000 in
theorem lc_sX8_all : Cond.selects mt_X8_all.1.cls mt_X8_all.1 mt_X8_all.1 ∈ ds_T := ds_wb_T (p := 533) (by decide +kernel)
set_option maxRecDepth 100000 in
theorem lc_wX9_all : lj_cw mt_X9_all 73 1 := ⟨⟨ds_T_of (i := 953) rfl rfl, ds_wb_T (p := 51) (by decide +kernel), by decide +kernel⟩, ⟨(Nat.le_of_ble_eq_true rfl), (Nat.le_of_ble_eq_true rfl)⟩, ds_wb_T (p := 950) (by decide +kernel), ds_wb_T (p := 951) (by decide +kernel)⟩
set_option maxRecDepth 100000 in
theorem lc_sX9_all : Cond.selects mt_X9_all.1.cls mt_X9_all.1 mt_X9_all.1 ∈ ds_T := ds_wb_T (p := 952) (by decide +kernel)
theorem dl_665 : decode code 665 = .ok (.invokevirtual 69, 3) := by decide +kernel
theorem dl_668 : decode code 668 = .ok (.aload_n 2, 1) := by decide +kernel
theorem dl_674 : decode code 674 = .ok (.invokevirtual 73, 3) := by decide +kernel
theorem dl_677 : decode code 677 = .ok (.lcmp, 1) := by decide +kernel
theorem dl_678 : decode code 678 = .ok (.ifCond .eq 373, 3) := by decide +kernel
theorem dl_683 : decode code 683 = .ok (.aload_n 1, 1) := by decide +kernel
theorem ka_684 : lj_ka 684 1 := by unfold lj_ka; decide +kernel
theorem ka_689 : lj_ka 689 2 := by unfold lj_ka; decide +kernel
theorem ka_698 : lj_ka 698 1 := by unfold lj_ka; decide +kernel
theorem ka_703 : lj_ka 703 2 := by unfold lj_ka; decide +kernel
set_option maxRecDepth 100000 in
theorem lc_wX8_parted : lj_cw mt_X8_parted 74 2 := ⟨⟨ds_T_of (i := 571) rfl rfl, ds_wb_T (p := 42) (by decide +kernel), by decide +kernel⟩, ⟨(Nat.le_of_ble_eq_true rfl), (Nat.le_of_ble_eq_true rfl)⟩, ds_wb_T (p := 568) (by decide +kernel), ds_wb_T (p := 569) (by decide +kernel)⟩
set_option maxRecDepth 100000 in
theorem lc_sX8_parted : Cond.selects mt_X8_parted.1.cls mt_X8_parted.1 mt_X8_parted.1 ∈ ds_T := ds_wb_T (p := 570) (by decide +kernel)
set_option maxRecDepth 100000 in
theorem lc_wX9_parted : lj_cw mt_X9_parted 77 2 := ⟨⟨ds_T_of (i := 961) rfl rfl, ds_wb_T (p := 51) (by decide +kernel), by decide +kernel⟩, ⟨(Nat.le_of_ble_eq_true rfl), (Nat.le_of_ble_eq_true rfl)⟩, ds_wb_T (p := 958) (by decide +kernel), ds_wb_T (p := 959) (by decide +kernel)⟩
set_option maxRecDepth 100000 in
theorem lc_sX9_parted : Cond.selects mt_X9_parted.1.cls mt_X9_parted.1 mt_X9_parted.1 ∈ ds_T := ds_wb_T (p := 960) (by decide +kernel)
theorem dl_694 : decode code 694 = .ok (.invokevirtual 74, 3) := by decide +kernel
theorem dl_697 : decode code 697 = .ok (.aload_n 2, 1) := by decide +kernel
theorem dl_708 : decode code 708 = .ok (.invokevirtual 77, 3) := by decide +kernel
theorem dl_711 : decode code 711 = .ok (.if_icmp .eq 340, 3) := by decide +kernel
theorem dl_716 : decode code 716 = .ok (.aload_n 1, 1) := by decide +kernel
theorem ka_717 : lj_ka 717 1 := by unfold lj_ka; decide +kernel
theorem ka_722 : lj_ka 722 2 := by unfold lj_ka; decide +kernel
theorem ka_727 : lj_ka 727 3 := by unfold lj_ka; decide +kernel
theorem ka_736 : lj_ka 736 1 := by unfold lj_ka; decide +kernel
theorem ka_741 : lj_ka 741 2 := by unfold lj_ka; decide +kernel
theorem ka_746 : lj_ka 746 3 := by unfold lj_ka; decide +kernel
set_option maxRecDepth 100000 in
theorem lc_wX8_who : lj_cw mt_X8_who 78 3 := ⟨⟨ds_T_of (i := 575) rfl rfl, ds_wb_T (p := 42) (by decide +kernel), by decide +kernel⟩, ⟨(Nat.le_of_ble_eq_true rfl), (Nat.le_of_ble_eq_true rfl)⟩, ds_wb_T (p := 572) (by decide +kernel), ds_wb_T (p := 573) (by decide +kernel)⟩
set_option maxRecDepth 100000 in
theorem lc_sX8_who : Cond.selects mt_X8_who.1.cls mt_X8_who.1 mt_X8_who.1 ∈ ds_T := ds_wb_T (p := 574) (by decide +kernel)
set_option maxRecDepth 100000 in
theorem lc_wX9_who : lj_cw mt_X9_who 82 3 := ⟨⟨ds_T_of (i := 965) rfl rfl, ds_wb_T (p := 51) (by decide +kernel), by decide +kernel⟩, ⟨(Nat.le_of_ble_eq_true rfl), (Nat.le_of_ble_eq_true rfl)⟩, ds_wb_T (p := 962) (by decide +kernel), ds_wb_T (p := 963) (by decide +kernel)⟩
set_option maxRecDepth 100000 in
theorem lc_sX9_who : Cond.selects mt_X9_who.1.cls mt_X9_who.1 mt_X9_who.1 ∈ ds_T := ds_wb_T (p := 964) (by decide +kernel)
theorem dl_732 : decode code 732 = .ok (.invokevirtual 78, 3) := by decide +kernel
theorem dl_735 : decode code 735 = .ok (.aload_n 2, 1) := by decide +kernel
theorem dl_751 : decode code 751 = .ok (.invokevirtual 82, 3) := by decide +kernel
theorem dl_754 : decode code 754 = .ok (.if_icmp .eq 297, 3) := by decide +kernel
theorem dl_759 : decode code 759 = .ok (.aload_n 1, 1) := by decide +kernel
theorem ka_760 : lj_ka 760 1 := by unfold lj_ka; decide +kernel
theorem ka_765 : lj_ka 765 2 := by unfold lj_ka; decide +kernel
theorem ka_774 : lj_ka 774 1 := by unfold lj_ka; decide +kernel
theorem ka_779 : lj_ka 779 2 := by unfold lj_ka; decide +kernel
set_option maxRecDepth 100000 in
theorem lc_wX8_seek : lj_cw mt_X8_seek 83 2 := ⟨⟨ds_T_of (i := 579) rfl rfl, ds_wb_T (p := 42) (by decide +kernel), by decide +kernel⟩, ⟨(Nat.le_of_ble_eq_true rfl), (Nat.le_of_ble_eq_true rfl)⟩, ds_wb_T (p := 576) (by decide +kernel), ds_wb_T (p := 577) (by decide +kernel)⟩
set_option maxRecDepth 100000 in
theorem lc_sX8_seek : Cond.selects mt_X8_seek.1.cls mt_X8_seek.1 mt_X8_seek.1 ∈ ds_T := ds_wb_T (p := 578) (by decide +kernel)
set_option maxRecDepth 100000 in
theorem lc_wX9_seek : lj_cw mt_X9_seek 86 2 := ⟨⟨ds_T_of (i := 970) rfl rfl, ds_wb_T (p := 51) (by decide +kernel), by decide +kernel⟩, ⟨(Nat.le_of_ble_eq_true rfl), (Nat.le_of_ble_eq_true rfl)⟩, ds_wb_T (p := 967) (by decide +kernel), ds_wb_T (p := 968) (by decide +kernel)⟩
set_option maxRecDepth 100000 in
theorem lc_sX9_seek : Cond.selects mt_X9_seek.1.cls mt_X9_seek.1 mt_X9_seek.1 ∈ ds_T := ds_wb_T (p := 969) (by decide +kernel)
theorem dl_770 : decode code 770 = .ok (.invokevirtual 83, 3) := by decide +kernel
theorem dl_773 : decode code 773 = .ok (.aload_n 2, 1) := by decide +kernel
theorem dl_784 : decode code 784 = .ok (.invokevirtual 86, 3) := by decide +kernel
theorem dl_787 : decode code 787 = .ok (.if_icmp .eq 264, 3) := by decide +kernel
theorem dl_792 : decode code 792 = .ok (.aload_n 1, 1) := by decide +kernel
theorem ka_793 : lj_ka 793 1 := by unfold lj_ka; decide +kernel
theorem ka_802 : lj_ka 802 1 := by unfold lj_ka; decide +kernel
set_option maxRecDepth 100000 in
theorem lc_wX8_sought : lj_cw mt_X8_sought 87 1 := ⟨⟨ds_T_of (i := 618) rfl rfl, ds_wb_T (p := 42) (by decide +kernel), by decide +kernel⟩, ⟨(Nat.le_of_ble_eq_true rfl), (Nat.le_of_ble_eq_true rfl)⟩, ds_wb_T (p := 615) (by decide +kernel), ds_wb_T (p := 616) (by decide +kernel)⟩
set_option maxRecDepth 100000 in
theorem lc_sX8_sought : Cond.selects mt_X8_sought.1.cls mt_X8_sought.1 mt_X8_sought.1 ∈ ds_T := ds_wb_T (p := 617) (by decide +kernel)
set_option maxRecDepth 100000 in
theorem lc_wX9_sought : lj_cw mt_X9_sought 90 1 := ⟨⟨ds_T_of (i := 983) rfl rfl, ds_wb_T (p := 51) (by decide +kernel), by decide +kernel⟩, ⟨(Nat.le_of_ble_eq_true rfl), (Nat.le_of_ble_eq_true rfl)⟩, ds_wb_T (p := 980) (by decide +kernel), ds_wb_T (p := 981) (by decide +kernel)⟩
set_option maxRecDepth 100000 in
theorem lc_sX9_sought : Cond.selects mt_X9_sought.1.cls mt_X9_sought.1 mt_X9_sought.1 ∈ ds_T := ds_wb_T (p := 982) (by decide +kernel)
theorem dl_798 : decode code 798 = .ok (.invokevirtual 87, 3) := by decide +kernel
theorem dl_801 : decode code 801 = .ok (.aload_n 2, 1) := by decide +kernel
theorem dl_807 : decode code 807 = .ok (.invokevirtual 90, 3) := by decide +kernel
theorem dl_810 : decode code 810 = .ok (.if_icmp .eq 241, 3) := by decide +kernel
theorem dl_815 : decode code 815 = .ok (.aload_n 1, 1) := by decide +kernel
theorem ka_816 : lj_ka 816 1 := by unfold lj_ka; decide +kernel
theorem ka_825 : lj_ka 825 1 := by unfold lj_ka; decide +kernel
set_option maxRecDepth 100000 in
theorem lc_wX8_better : lj_cw mt_X8_better 91 1 := ⟨⟨ds_T_of (i := 622) rfl rfl, ds_wb_T (p := 42) (by decide +kernel), by decide +kernel⟩, ⟨(Nat.le_of_ble_eq_true rfl), (Nat.le_of_ble_eq_true rfl)⟩, ds_wb_T (p := 619) (by decide +kernel), ds_wb_T (p := 620) (by decide +kernel)⟩
set_option maxRecDepth 100000 in
theorem lc_sX8_better : Cond.selects mt_X8_better.1.cls mt_X8_better.1 mt_X8_better.1 ∈ ds_T := ds_wb_T (p := 621) (by decide +kernel)
set_option maxRecDepth 100000 in
theorem lc_wX9_better : lj_cw mt_X9_better 94 1 := ⟨⟨ds_T_of (i := 987) rfl rfl, ds_wb_T (p := 51) (by decide +kernel), by decide +kernel⟩, ⟨(Nat.le_of_ble_eq_true rfl), (Nat.le_of_ble_eq_true rfl)⟩, ds_wb_T (p := 984) (by decide +kernel), ds_wb_T (p := 985) (by decide +kernel)⟩
set_option maxRecDepth 100000 in
theorem lc_sX9_better : Cond.selects mt_X9_better.1.cls mt_X9_better.1 mt_X9_better.1 ∈ ds_T := ds_wb_T (p := 986) (by decide +kernel)
theorem dl_821 : decode code 821 = .ok (.invokevirtual 91, 3) := by decide +kernel
theorem dl_824 : decode code 824 = .ok (.aload_n 2, 1) := by decide +kernel
theorem dl_830 : decode code 830 = .ok (.invokevirtual 94, 3) := by decide +kernel
theorem dl_833 : decode code 833 = .ok (.lcmp, 1) := by decide +kernel
theorem dl_834 : decode code 834 = .ok (.ifCond .eq 217, 3) := by decide +kernel
theorem dl_839 : decode code 839 = .ok (.aload_n 1, 1) := by decide +kernel
set_option maxRecDepth 100000 in
theorem lc_wX8_take : lj_cw mt_X8_take 95 0 := ⟨⟨ds_T_of (i := 627) rfl rfl, ds_wb_T (p := 42) (by decide +kernel), by decide +kernel⟩, ⟨(Nat.le_of_ble_eq_true rfl), (Nat.le_of_ble_eq_true rfl)⟩, ds_wb_T (p := 624) (by decide +kernel), ds_wb_T (p := 625) (by decide +kernel)⟩
set_option maxRecDepth 100000 in
theorem lc_sX8_take : Cond.selects mt_X8_take.1.cls mt_X8_take.1 mt_X8_take.1 ∈ ds_T := ds_wb_T (p := 626) (by decide +kernel)
set_option maxRecDepth 100000 in
theorem lc_wX9_take : lj_cw mt_X9_take 99 0 := ⟨⟨ds_T_of (i := 992) rfl rfl, ds_wb_T (p := 51) (by decide +kernel), by decide +kernel⟩, ⟨(Nat.le_of_ble_eq_true rfl), (Nat.le_of_ble_eq_true rfl)⟩, ds_wb_T (p := 989) (by decide +kernel), ds_wb_T (p := 990) (by decide +kernel)⟩
set_option maxRecDepth 100000 in
theorem lc_sX9_take : Cond.selects mt_X9_take.1.cls mt_X9_take.1 mt_X9_take.1 ∈ ds_T := ds_wb_T (p := 991) (by decide +kernel)
theorem dl_840 : decode code 840 = .ok (.invokevirtual 95, 3) := by decide +kernel
theorem dl_843 : decode code 843 = .ok (.aload_n 2, 1) := by decide +kernel
theorem dl_844 : decode code 844 = .ok (.invokevirtual 99, 3) := by decide +kernel
theorem dl_847 : decode code 847 = .ok (.if_icmp .eq 204, 3) := by decide +kernel
theorem dl_852 : decode code 852 = .ok (.aload_n 1, 1) := by decide +kernel
theorem ka_853 : lj_ka 853 1 := by unfold lj_ka; decide +kernel
theorem ka_858 : lj_ka 858 2 := by unfold lj_ka; decide +kernel
theorem ka_867 : lj_ka 867 1 := by unfold lj_ka; decide +kernel
theorem ka_872 : lj_ka 872 2 := by unfold lj_ka; decide +kernel
set_option maxRecDepth 100000 in
theorem lc_wX8_ring : lj_cw mt_X8_ring 100 2 := ⟨⟨ds_T_of (i := 632) rfl rfl, ds_wb_T (p := 42) (by decide +kernel), by decide +kernel⟩, ⟨(Nat.le_of_ble_eq_true rfl), (Nat.le_of_ble_eq_true rfl)⟩, ds_wb_T (p := 629) (by decide +kernel), ds_wb_T (p := 630) (by decide +kernel)⟩
set_option maxRecDepth 100000 in
theorem lc_sX8_ring : Cond.selects mt_X8_ring.1.cls mt_X8_ring.1 mt_X8_ring.1 ∈ ds_T := ds_wb_T (p := 631) (by decide +kernel)
set_option maxRecDepth 100000 in
theorem lc_wX9_ring : lj_cw mt_X9_ring 103 2 := ⟨⟨ds_T_of (i := 996) rfl rfl, ds_wb_T (p := 51) (by decide +kernel), by decide +kernel⟩, ⟨(Nat.le_of_ble_eq_true rfl), (Nat.le_of_ble_eq_true rfl)⟩, ds_wb_T (p := 993) (by decide +kernel), ds_wb_T (p := 994) (by decide +kernel)⟩
set_option maxRecDepth 100000 in
theorem lc_sX9_ring : Cond.selects mt_X9_ring.1.cls mt_X9_ring.1 mt_X9_ring.1 ∈ ds_T := ds_wb_T (p := 995) (by decide +kernel)
theorem dl_863 : decode code 863 = .ok (.invokevirtual 100, 3) := by decide +kernel
theorem dl_866 : decode code 866 = .ok (.aload_n 2, 1) := by decide +kernel
theorem dl_877 : decode code 877 = .ok (.invokevirtual 103, 3) := by decide +kernel
theorem dl_880 : decode code 880 = .ok (.if_icmp .eq 171, 3) := by decide +kernel
theorem dl_885 : decode code 885 = .ok (.aload_n 1, 1) := by decide +kernel
theorem ka_886 : lj_ka 886 1 := by unfold lj_ka; decide +kernel
theorem ka_891 : lj_ka 891 2 := by unfold lj_ka; decide +kernel
theorem ka_900 : lj_ka 900 1 := by unfold lj_ka; decide +kernel
theorem ka_905 : lj_ka 905 2 := by unfold lj_ka; decide +kernel
set_option maxRecDepth 100000 in
theorem lc_wX8_between : lj_cw mt_X8_between 104 2 := ⟨⟨ds_T_of (i := 665) rfl rfl, ds_wb_T (p := 42) (by decide +kernel), by decide +kernel⟩, ⟨(Nat.le_of_ble_eq_true rfl), (Nat.le_of_ble_eq_true rfl)⟩, ds_wb_T (p := 662) (by decide +kernel), ds_wb_T (p := 663) (by decide +kernel)⟩
set_option maxRecDepth 100000 in
theorem lc_sX8_between : Cond.selects mt_X8_between.1.cls mt_X8_between.1 mt_X8_between.1 ∈ ds_T := ds_wb_T (p := 664) (by decide +kernel)
set_option maxRecDepth 100000 in
theorem lc_wX9_between : lj_cw mt_X9_between 107 2 := ⟨⟨ds_T_of (i := 1016) rfl rfl, ds_wb_T (p := 51) (by decide +kernel), by decide +kernel⟩, ⟨(Nat.le_of_ble_eq_true rfl), (Nat.le_of_ble_eq_true rfl)⟩, ds_wb_T (p := 1013) (by decide +kernel), ds_wb_T (p := 1014) (by decide +kernel)⟩
set_option maxRecDepth 100000 in
theorem lc_sX9_between : Cond.selects mt_X9_between.1.cls mt_X9_between.1 mt_X9_between.1 ∈ ds_T := ds_wb_T (p := 1015) (by decide +kernel)
theorem dl_896 : decode code 896 = .ok (.invokevirtual 104, 3) := by decide +kernel
theorem dl_899 : decode code 899 = .ok (.aload_n 2, 1) := by decide +kernel
theorem dl_910 : decode code 910 = .ok (.invokevirtual 107, 3) := by decide +kernel
theorem dl_913 : decode code 913 = .ok (.if_icmp .eq 138, 3) := by decide +kernel
theorem dl_918 : decode code 918 = .ok (.aload_n 1, 1) := by decide +kernel
theorem ka_919 : lj_ka 919 1 := by unfold lj_ka; decide +kernel
theorem ka_924 : lj_ka 924 2 := by unfold lj_ka; decide +kernel
theorem ka_929 : lj_ka 929 3 := by unfold lj_ka; decide +kernel
theorem ka_938 : lj_ka 938 1 := by unfold lj_ka; decide +kernel
theorem ka_943 : lj_ka 943 2 := by unfold lj_ka; decide +kernel
theorem ka_948 : lj_ka 948 3 := by unfold lj_ka; decide +kernel
set_option maxRecDepth 100000 in
theorem lc_wX8_value : lj_cw mt_X8_value 108 3 := ⟨⟨ds_T_of (i := 682) rfl rfl, ds_wb_T (p := 42) (by decide +kernel), by decide +kernel⟩, ⟨(Nat.le_of_ble_eq_true rfl), (Nat.le_of_ble_eq_true rfl)⟩, ds_wb_T (p := 679) (by decide +kernel), ds_wb_T (p := 680) (by decide +kernel)⟩
set_option maxRecDepth 100000 in
theorem lc_sX8_value : Cond.selects mt_X8_value.1.cls mt_X8_value.1 mt_X8_value.1 ∈ ds_T := ds_wb_T (p := 681) (by decide +kernel)
set_option maxRecDepth 100000 in
theorem lc_wX9_value : lj_cw mt_X9_value 111 3 := ⟨⟨ds_T_of (i := 1024) rfl rfl, ds_wb_T (p := 51) (by decide +kernel), by decide +kernel⟩, ⟨(Nat.le_of_ble_eq_true rfl), (Nat.le_of_ble_eq_true rfl)⟩, ds_wb_T (p := 1021) (by decide +kernel), ds_wb_T (p := 1022) (by decide +kernel)⟩
set_option maxRecDepth 100000 in
theorem lc_sX9_value : Cond.selects mt_X9_value.1.cls mt_X9_value.1 mt_X9_value.1 ∈ ds_T := ds_wb_T (p := 1023) (by decide +kernel)
theorem dl_934 : decode code 934 = .ok (.invokevirtual 108, 3) := by decide +kernel
theorem dl_937 : decode code 937 = .ok (.aload_n 2, 1) := by decide +kernel
theorem dl_953 : decode code 953 = .ok (.invokevirtual 111, 3) := by decide +kernel
theorem dl_956 : decode code 956 = .ok (.if_icmp .eq 95, 3) := by decide +kernel
theorem dl_961 : decode code 961 = .ok (.aload_n 1, 1) := by decide +kernel
theorem ka_962 : lj_ka 962 1 := by unfold lj_ka; decide +kernel
theorem ka_967 : lj_ka 967 2 := by unfold lj_ka; decide +kernel
theorem ka_976 : lj_ka 976 1 := by unfold lj_ka; decide +kernel
theorem ka_981 : lj_ka 981 2 := by unfold lj_ka; decide +kernel
set_option maxRecDepth 100000 in
theorem lc_wX8_grow : lj_cw mt_X8_grow 112 2 := ⟨⟨ds_T_of (i := 694) rfl rfl, ds_wb_T (p := 42) (by decide +kernel), by decide +kernel⟩, ⟨(Nat.le_of_ble_eq_true rfl), (Nat.le_of_ble_eq_true rfl)⟩, ds_wb_T (p := 691) (by decide +kernel), ds_wb_T (p := 692) (by decide +kernel)⟩
set_option maxRecDepth 100000 in
theorem lc_sX8_grow : Cond.selects mt_X8_grow.1.cls mt_X8_grow.1 mt_X8_grow.1 ∈ ds_T := ds_wb_T (p := 693) (by decide +kernel)
set_option maxRecDepth 100000 in
theorem lc_wX9_grow : lj_cw mt_X9_grow 115 2 := ⟨⟨ds_T_of (i := 1028) rfl rfl, ds_wb_T (p := 51) (by decide +kernel), by decide +kernel⟩, ⟨(Nat.le_of_ble_eq_true rfl), (Nat.le_of_ble_eq_true rfl)⟩, ds_wb_T (p := 1025) (by decide +kernel), ds_wb_T (p := 1026) (by decide +kernel)⟩
set_option maxRecDepth 100000 in
theorem lc_sX9_grow : Cond.selects mt_X9_grow.1.cls mt_X9_grow.1 mt_X9_grow.1 ∈ ds_T := ds_wb_T (p := 1027) (by decide +kernel)
theorem dl_972 : decode code 972 = .ok (.invokevirtual 112, 3) := by decide +kernel
theorem dl_975 : decode code 975 = .ok (.aload_n 2, 1) := by decide +kernel
theorem dl_986 : decode code 986 = .ok (.invokevirtual 115, 3) := by decide +kernel
theorem dl_989 : decode code 989 = .ok (.lcmp, 1) := by decide +kernel
theorem dl_990 : decode code 990 = .ok (.ifCond .eq 61, 3) := by decide +kernel
theorem dl_995 : decode code 995 = .ok (.aload_n 1, 1) := by decide +kernel
theorem ka_996 : lj_ka 996 1 := by unfold lj_ka; decide +kernel
theorem ka_1001 : lj_ka 1001 2 := by unfold lj_ka; decide +kernel
theorem ka_1010 : lj_ka 1010 1 := by unfold lj_ka; decide +kernel
theorem ka_1015 : lj_ka 1015 2 := by unfold lj_ka; decide +kernel
set_option maxRecDepth 100000 in
theorem lc_wX8_year : lj_cw mt_X8_year 116 2 := ⟨⟨ds_T_of (i := 699) rfl rfl, ds_wb_T (p := 42) (by decide +kernel), by decide +kernel⟩, ⟨(Nat.le_of_ble_eq_true rfl), (Nat.le_of_ble_eq_true rfl)⟩, ds_wb_T (p := 696) (by decide +kernel), ds_wb_T (p := 697) (by decide +kernel)⟩
set_option maxRecDepth 100000 in
theorem lc_sX8_year : Cond.selects mt_X8_year.1.cls mt_X8_year.1 mt_X8_year.1 ∈ ds_T := ds_wb_T (p := 698) (by decide +kernel)
set_option maxRecDepth 100000 in
theorem lc_wX9_year : lj_cw mt_X9_year 119 2 := ⟨⟨ds_T_of (i := 1033) rfl rfl, ds_wb_T (p := 51) (by decide +kernel), by decide +kernel⟩, ⟨(Nat.le_of_ble_eq_true rfl), (Nat.le_of_ble_eq_true rfl)⟩, ds_wb_T (p := 1030) (by decide +kernel), ds_wb_T (p := 1031) (by decide +kernel)⟩
set_option maxRecDepth 100000 in
theorem lc_sX9_year : Cond.selects mt_X9_year.1.cls mt_X9_year.1 mt_X9_year.1 ∈ ds_T := ds_wb_T (p := 1032) (by decide +kernel)
theorem dl_1006 : decode code 1006 = .ok (.invokevirtual 116, 3) := by decide +kernel
theorem dl_1009 : decode code 1009 = .ok (.aload_n 2, 1) := by decide +kernel
theorem dl_1020 : decode code 1020 = .ok (.invokevirtual 119, 3) := by decide +kernel
theorem dl_1023 : decode code 1023 = .ok (.if_icmp .eq 28, 3) := by decide +kernel
theorem dl_1028 : decode code 1028 = .ok (.aload_n 1, 1) := by decide +kernel
theorem ka_1029 : lj_ka 1029 1 := by unfold lj_ka; decide +kernel
theorem ka_1038 : lj_ka 1038 1 := by unfold lj_ka; decide +kernel
set_option maxRecDepth 100000 in
theorem lc_wX8_told : lj_cw mt_X8_told 120 1 := ⟨⟨ds_T_of (i := 718) rfl rfl, ds_wb_T (p := 42) (by decide +kernel), by decide +kernel⟩, ⟨(Nat.le_of_ble_eq_true rfl), (Nat.le_of_ble_eq_true rfl)⟩, ds_wb_T (p := 715) (by decide +kernel), ds_wb_T (p := 716) (by decide +kernel)⟩
set_option maxRecDepth 100000 in
theorem lc_sX8_told : Cond.selects mt_X8_told.1.cls mt_X8_told.1 mt_X8_told.1 ∈ ds_T := ds_wb_T (p := 717) (by decide +kernel)
set_option maxRecDepth 100000 in
theorem lc_wX9_told : lj_cw mt_X9_told 123 1 := ⟨⟨ds_T_of (i := 1039) rfl rfl, ds_wb_T (p := 51) (by decide +kernel), by decide +kernel⟩, ⟨(Nat.le_of_ble_eq_true rfl), (Nat.le_of_ble_eq_true rfl)⟩, ds_wb_T (p := 1036) (by decide +kernel), ds_wb_T (p := 1037) (by decide +kernel)⟩
set_option maxRecDepth 100000 in
theorem lc_sX9_told : Cond.selects mt_X9_told.1.cls mt_X9_told.1 mt_X9_told.1 ∈ ds_T := ds_wb_T (p := 1038) (by decide +kernel)
theorem dl_1034 : decode code 1034 = .ok (.invokevirtual 120, 3) := by decide +kernel
theorem dl_1037 : decode code 1037 = .ok (.aload_n 2, 1) := by decide +kernel
theorem dl_1043 : decode code 1043 = .ok (.invokevirtual 123, 3) := by decide +kernel
theorem dl_1046 : decode code 1046 = .ok (.if_icmp .eq 5, 3) := by decide +kernel
