theorem lg_cmp_same {r : Int64} : lg_cmp r r = 0 := by simp [lg_cmp]
section LJC
variable {b L : Nat} {xs : Nat → Int32} {cy : Nat → ClassId} {i k n : Nat} {aC aM : Nat → Nat} {σC σM : ds_S}
set_option maxRecDepth 100000 in
set_option maxHeartbeats 4000000 in
theorem lj_c0 (hL : L ≤ 3072) (hi : i + 6 ≤ L) (hcs : k ≤ 600000 ∧ n ≤ 7302250) (hB : Both σC σM) (kk : ∀ σC2 σM2 : ds_S, Both σC2 σM2 → lj_X b L xs cy 1051 (lj_l b (aC 0) (aM 0) i) [] k n (ds_w cy aC Yc σC2 ++ ds_w cy aM Ym σM2)) : lj_X b L xs cy 148 (lj_l b (aC 0) (aM 0) i) [] k n (ds_w cy aC Yc σC ++ ds_w cy aM Ym σM) := by
  refine lj_aload 2 dl_148 rfl rfl ?_
  refine lj_arg (j := 1) ka_149 (by decide) hL (by omega) ?_
  refine lj_swap ?_
  refine lj_callI (as := [.int (xs (i + 1))]) (rest := []) dl_154 (pub_boxes (xs (i + 1)) σC σM hB) rfl lc_wX8_boxes lc_sX8_boxes rfl (Nat.le_of_ble_eq_true rfl) rfl ⟨_, rfl, rfl⟩ (Nat.le_of_ble_eq_true rfl) hcs (fun r σC2 hE => ?_)
  refine lj_swap ?_
  refine lj_aload 1 dl_157 rfl rfl ?_
  refine lj_arg (j := 1) ka_158 (by decide) hL (by omega) ?_
  refine lj_callI (as := [.int (xs (i + 1))]) (rest := [.int r]) dl_163 hE rfl lc_wX9_boxes lc_sX9_boxes rfl (Nat.le_of_ble_eq_true rfl) rfl ⟨_, rfl, rfl⟩ (Nat.le_of_ble_eq_true rfl) hcs (fun r2 σM2 hq => ?_)
  obtain ⟨hr, hB2⟩ := hq
  obtain rfl : r2 = r := by injection hr with hr; injection hr
  exact lj_ieq (tgt := 1051) dl_166 (by decide) (fun _ => kk _ _ hB2) (fun h => absurd rfl h)
set_option maxRecDepth 100000 in
set_option maxHeartbeats 4000000 in
theorem lj_c1 (hL : L ≤ 3072) (hi : i + 6 ≤ L) (hcs : k ≤ 600000 ∧ n ≤ 7302250) (hB : Both σC σM) (kk : ∀ σC2 σM2 : ds_S, Both σC2 σM2 → lj_X b L xs cy 1051 (lj_l b (aC 0) (aM 0) i) [] k n (ds_w cy aC Yc σC2 ++ ds_w cy aM Ym σM2)) : lj_X b L xs cy 171 (lj_l b (aC 0) (aM 0) i) [] k n (ds_w cy aC Yc σC ++ ds_w cy aM Ym σM) := by
  refine lj_aload 2 dl_171 rfl rfl ?_
  refine lj_arg (j := 1) ka_172 (by decide) hL (by omega) ?_
  refine lj_arg (j := 2) ka_177 (by decide) hL (by omega) ?_
  refine lj_arg (j := 3) ka_182 (by decide) hL (by omega) ?_
  refine lj_arg (j := 4) ka_187 (by decide) hL (by omega) ?_
  refine lj_swap ?_
  refine lj_callI (as := [.int (xs (i + 1)), .int (xs (i + 2)), .int (xs (i + 3)), .int (xs (i + 4))]) (rest := []) dl_192 (pub_line (xs (i + 1)) (xs (i + 2)) (xs (i + 3)) (xs (i + 4)) σC σM hB) rfl lc_wX8_line lc_sX8_line rfl (Nat.le_of_ble_eq_true rfl) rfl ⟨_, rfl, rfl⟩ (Nat.le_of_ble_eq_true rfl) hcs (fun r σC2 hE => ?_)
  refine lj_swap ?_
  refine lj_aload 1 dl_195 rfl rfl ?_
  refine lj_arg (j := 1) ka_196 (by decide) hL (by omega) ?_
  refine lj_arg (j := 2) ka_201 (by decide) hL (by omega) ?_
  refine lj_arg (j := 3) ka_206 (by decide) hL (by omega) ?_
  refine lj_arg (j := 4) ka_211 (by decide) hL (by omega) ?_
  refine lj_callI (as := [.int (xs (i + 1)), .int (xs (i + 2)), .int (xs (i + 3)), .int (xs (i + 4))]) (rest := [.int r]) dl_216 hE rfl lc_wX9_line lc_sX9_line rfl (Nat.le_of_ble_eq_true rfl) rfl ⟨_, rfl, rfl⟩ (Nat.le_of_ble_eq_true rfl) hcs (fun r2 σM2 hq => ?_)
  obtain ⟨hr, hB2⟩ := hq
  obtain rfl : r2 = r := by injection hr with hr; injection hr
  exact lj_ieq (tgt := 1051) dl_219 (by decide) (fun _ => kk _ _ hB2) (fun h => absurd rfl h)
set_option maxRecDepth 100000 in
set_option maxHeartbeats 4000000 in
theorem lj_c2 (hL : L ≤ 3072) (hi : i + 6 ≤ L) (hcs : k ≤ 600000 ∧ n ≤ 7302250) (hB : Both σC σM) (kk : ∀ σC2 σM2 : ds_S, Both σC2 σM2 → lj_X b L xs cy 1051 (lj_l b (aC 0) (aM 0) i) [] k n (ds_w cy aC Yc σC2 ++ ds_w cy aM Ym σM2)) : lj_X b L xs cy 224 (lj_l b (aC 0) (aM 0) i) [] k n (ds_w cy aC Yc σC ++ ds_w cy aM Ym σM) := by
  refine lj_aload 2 dl_224 rfl rfl ?_
  refine lj_arg (j := 1) ka_225 (by decide) hL (by omega) ?_
  refine lj_arg (j := 2) ka_230 (by decide) hL (by omega) ?_
  refine lj_swap ?_
  refine lj_callI (as := [.int (xs (i + 1)), .int (xs (i + 2))]) (rest := []) dl_235 (pub_about (xs (i + 1)) (xs (i + 2)) σC σM hB) rfl lc_wX8_about lc_sX8_about rfl (Nat.le_of_ble_eq_true rfl) rfl ⟨_, rfl, rfl⟩ (Nat.le_of_ble_eq_true rfl) hcs (fun r σC2 hE => ?_)
  refine lj_swap ?_
  refine lj_aload 1 dl_238 rfl rfl ?_
  refine lj_arg (j := 1) ka_239 (by decide) hL (by omega) ?_
  refine lj_arg (j := 2) ka_244 (by decide) hL (by omega) ?_
  refine lj_callI (as := [.int (xs (i + 1)), .int (xs (i + 2))]) (rest := [.int r]) dl_249 hE rfl lc_wX9_about lc_sX9_about rfl (Nat.le_of_ble_eq_true rfl) rfl ⟨_, rfl, rfl⟩ (Nat.le_of_ble_eq_true rfl) hcs (fun r2 σM2 hq => ?_)
  obtain ⟨hr, hB2⟩ := hq
  obtain rfl : r2 = r := by injection hr with hr; injection hr
  exact lj_ieq (tgt := 1051) dl_252 (by decide) (fun _ => kk _ _ hB2) (fun h => absurd rfl h)
set_option maxRecDepth 100000 in
set_option maxHeartbeats 4000000 in
theorem lj_c3 (hL : L ≤ 3072) (hi : i + 6 ≤ L) (hcs : k ≤ 600000 ∧ n ≤ 7302250) (hB : Both σC σM) (kk : ∀ σC2 σM2 : ds_S, Both σC2 σM2 → lj_X b L xs cy 1051 (lj_l b (aC 0) (aM 0) i) [] k n (ds_w cy aC Yc σC2 ++ ds_w cy aM Ym σM2)) : lj_X b L xs cy 257 (lj_l b (aC 0) (aM 0) i) [] k n (ds_w cy aC Yc σC ++ ds_w cy aM Ym σM) := by
  refine lj_aload 2 dl_257 rfl rfl ?_
  refine lj_arg (j := 1) ka_258 (by decide) hL (by omega) ?_
  refine lj_arg (j := 2) ka_263 (by decide) hL (by omega) ?_
  refine lj_swap ?_
  refine lj_callI (as := [.int (xs (i + 1)), .int (xs (i + 2))]) (rest := []) dl_268 (pub_weigh (xs (i + 1)) (xs (i + 2)) σC σM hB) rfl lc_wX8_weigh lc_sX8_weigh rfl (Nat.le_of_ble_eq_true rfl) rfl ⟨_, rfl, rfl⟩ (Nat.le_of_ble_eq_true rfl) hcs (fun r σC2 hE => ?_)
  refine lj_swap ?_
  refine lj_aload 1 dl_271 rfl rfl ?_
  refine lj_arg (j := 1) ka_272 (by decide) hL (by omega) ?_
  refine lj_arg (j := 2) ka_277 (by decide) hL (by omega) ?_
  refine lj_callI (as := [.int (xs (i + 1)), .int (xs (i + 2))]) (rest := [.int r]) dl_282 hE rfl lc_wX9_weigh lc_sX9_weigh rfl (Nat.le_of_ble_eq_true rfl) rfl ⟨_, rfl, rfl⟩ (Nat.le_of_ble_eq_true rfl) hcs (fun r2 σM2 hq => ?_)
  obtain ⟨hr, hB2⟩ := hq
  obtain rfl : r2 = r := by injection hr with hr; injection hr
  exact lj_ieq (tgt := 1051) dl_285 (by decide) (fun _ => kk _ _ hB2) (fun h => absurd rfl h)
set_option maxRecDepth 100000 in
set_option maxHeartbeats 4000000 in
theorem lj_c4 (hL : L ≤ 3072) (hi : i + 6 ≤ L) (hcs : k ≤ 600000 ∧ n ≤ 7302250) (hB : Both σC σM) (kk : ∀ σC2 σM2 : ds_S, Both σC2 σM2 → lj_X b L xs cy 1051 (lj_l b (aC 0) (aM 0) i) [] k n (ds_w cy aC Yc σC2 ++ ds_w cy aM Ym σM2)) : lj_X b L xs cy 290 (lj_l b (aC 0) (aM 0) i) [] k n (ds_w cy aC Yc σC ++ ds_w cy aM Ym σM) := by
  refine lj_aload 2 dl_290 rfl rfl ?_
  refine lj_arg (j := 1) ka_291 (by decide) hL (by omega) ?_
  refine lj_arg (j := 2) ka_296 (by decide) hL (by omega) ?_
  refine lj_arg (j := 3) ka_301 (by decide) hL (by omega) ?_
  refine lj_bool kz_306 ?_
  refine lj_swap ?_
  refine lj_callI (as := [.int (xs (i + 1)), .int (xs (i + 2)), .int (if xs (i + 3) = 0 then 0 else 1)]) (rest := []) dl_314 (pub_mark (xs (i + 1)) (xs (i + 2)) (if xs (i + 3) = 0 then 0 else 1) (by by_cases h : xs (i + 3) = 0 <;> simp [h]) σC σM hB) rfl lc_wX8_mark lc_sX8_mark rfl (Nat.le_of_ble_eq_true rfl) rfl ⟨_, rfl, rfl⟩ (Nat.le_of_ble_eq_true rfl) hcs (fun r σC2 hE => ?_)
  refine lj_swap ?_
  refine lj_aload 1 dl_317 rfl rfl ?_
  refine lj_arg (j := 1) ka_318 (by decide) hL (by omega) ?_
  refine lj_arg (j := 2) ka_323 (by decide) hL (by omega) ?_
  refine lj_arg (j := 3) ka_328 (by decide) hL (by omega) ?_
  refine lj_bool kz_333 ?_
  refine lj_callI (as := [.int (xs (i + 1)), .int (xs (i + 2)), .int (if xs (i + 3) = 0 then 0 else 1)]) (rest := [.int r]) dl_341 hE rfl lc_wX9_mark lc_sX9_mark rfl (Nat.le_of_ble_eq_true rfl) rfl ⟨_, rfl, rfl⟩ (Nat.le_of_ble_eq_true rfl) hcs (fun r2 σM2 hq => ?_)
  obtain ⟨hr, hB2⟩ := hq
  obtain rfl : r2 = r := by injection hr with hr; injection hr
  exact lj_ieq (tgt := 1051) dl_344 (by decide) (fun _ => kk _ _ hB2) (fun h => absurd rfl h)
set_option maxRecDepth 100000 in
set_option maxHeartbeats 4000000 in
theorem lj_c5 (hL : L ≤ 3072) (hi : i + 6 ≤ L) (hcs : k ≤ 600000 ∧ n ≤ 7302250) (hB : Both σC σM) (kk : ∀ σC2 σM2 : ds_S, Both σC2 σM2 → lj_X b L xs cy 1051 (lj_l b (aC 0) (aM 0) i) [] k n (ds_w cy aC Yc σC2 ++ ds_w cy aM Ym σM2)) : lj_X b L xs cy 349 (lj_l b (aC 0) (aM 0) i) [] k n (ds_w cy aC Yc σC ++ ds_w cy aM Ym σM) := by
  refine lj_aload 2 dl_349 rfl rfl ?_
  refine lj_arg (j := 1) ka_350 (by decide) hL (by omega) ?_
  refine lj_arg (j := 2) ka_355 (by decide) hL (by omega) ?_
  refine lj_arg (j := 3) ka_360 (by decide) hL (by omega) ?_
  refine lj_arg (j := 4) ka_365 (by decide) hL (by omega) ?_
  refine lj_swap ?_
  refine lj_callI (as := [.int (xs (i + 1)), .int (xs (i + 2)), .int (xs (i + 3)), .int (xs (i + 4))]) (rest := []) dl_370 (pub_load (xs (i + 1)) (xs (i + 2)) (xs (i + 3)) (xs (i + 4)) σC σM hB) rfl lc_wX8_load lc_sX8_load rfl (Nat.le_of_ble_eq_true rfl) rfl ⟨_, rfl, rfl⟩ (Nat.le_of_ble_eq_true rfl) hcs (fun r σC2 hE => ?_)
  refine lj_swap ?_
  refine lj_aload 1 dl_373 rfl rfl ?_
  refine lj_arg (j := 1) ka_374 (by decide) hL (by omega) ?_
  refine lj_arg (j := 2) ka_379 (by decide) hL (by omega) ?_
  refine lj_arg (j := 3) ka_384 (by decide) hL (by omega) ?_
  refine lj_arg (j := 4) ka_389 (by decide) hL (by omega) ?_
  refine lj_callI (as := [.int (xs (i + 1)), .int (xs (i + 2)), .int (xs (i + 3)), .int (xs (i + 4))]) (rest := [.int r]) dl_394 hE rfl lc_wX9_load lc_sX9_load rfl (Nat.le_of_ble_eq_true rfl) rfl ⟨_, rfl, rfl⟩ (Nat.le_of_ble_eq_true rfl) hcs (fun r2 σM2 hq => ?_)
  obtain ⟨hr, hB2⟩ := hq
  obtain rfl : r2 = r := by injection hr with hr; injection hr
  exact lj_ieq (tgt := 1051) dl_397 (by decide) (fun _ => kk _ _ hB2) (fun h => absurd rfl h)
set_option maxRecDepth 100000 in
set_option maxHeartbeats 4000000 in
theorem lj_c6 (hL : L ≤ 3072) (hi : i + 6 ≤ L) (hcs : k ≤ 600000 ∧ n ≤ 7302250) (hB : Both σC σM) (kk : ∀ σC2 σM2 : ds_S, Both σC2 σM2 → lj_X b L xs cy 1051 (lj_l b (aC 0) (aM 0) i) [] k n (ds_w cy aC Yc σC2 ++ ds_w cy aM Ym σM2)) : lj_X b L xs cy 402 (lj_l b (aC 0) (aM 0) i) [] k n (ds_w cy aC Yc σC ++ ds_w cy aM Ym σM) := by
  refine lj_aload 2 dl_402 rfl rfl ?_
  refine lj_arg (j := 1) ka_403 (by decide) hL (by omega) ?_
  refine lj_arg (j := 2) ka_408 (by decide) hL (by omega) ?_
  refine lj_swap ?_
  refine lj_callI (as := [.int (xs (i + 1)), .int (xs (i + 2))]) (rest := []) dl_413 (pub_least (xs (i + 1)) (xs (i + 2)) σC σM hB) rfl lc_wX8_least lc_sX8_least rfl (Nat.le_of_ble_eq_true rfl) rfl ⟨_, rfl, rfl⟩ (Nat.le_of_ble_eq_true rfl) hcs (fun r σC2 hE => ?_)
  refine lj_swap ?_
  refine lj_aload 1 dl_416 rfl rfl ?_
  refine lj_arg (j := 1) ka_417 (by decide) hL (by omega) ?_
  refine lj_arg (j := 2) ka_422 (by decide) hL (by omega) ?_
  refine lj_callI (as := [.int (xs (i + 1)), .int (xs (i + 2))]) (rest := [.int r]) dl_427 hE rfl lc_wX9_least lc_sX9_least rfl (Nat.le_of_ble_eq_true rfl) rfl ⟨_, rfl, rfl⟩ (Nat.le_of_ble_eq_true rfl) hcs (fun r2 σM2 hq => ?_)
  obtain ⟨hr, hB2⟩ := hq
  obtain rfl : r2 = r := by injection hr with hr; injection hr
  exact lj_ieq (tgt := 1051) dl_430 (by decide) (fun _ => kk _ _ hB2) (fun h => absurd rfl h)
set_option maxRecDepth 100000 in
set_option maxHeartbeats 4000000 in
theorem lj_c7 (hL : L ≤ 3072) (hi : i + 6 ≤ L) (hcs : k ≤ 600000 ∧ n ≤ 7302250) (hB : Both σC σM) (kk : ∀ σC2 σM2 : ds_S, Both σC2 σM2 → lj_X b L xs cy 1051 (lj_l b (aC 0) (aM 0) i) [] k n (ds_w cy aC Yc σC2 ++ ds_w cy aM Ym σM2)) : lj_X b L xs cy 435 (lj_l b (aC 0) (aM 0) i) [] k n (ds_w cy aC Yc σC ++ ds_w cy aM Ym σM) := by
  refine lj_aload 2 dl_435 rfl rfl ?_
  refine lj_arg (j := 1) ka_436 (by decide) hL (by omega) ?_
  refine lj_arg (j := 2) ka_441 (by decide) hL (by omega) ?_
  refine lj_swap ?_
  refine lj_callI (as := [.int (xs (i + 1)), .int (xs (i + 2))]) (rest := []) dl_446 (pub_next (xs (i + 1)) (xs (i + 2)) σC σM hB) rfl lc_wX8_next lc_sX8_next rfl (Nat.le_of_ble_eq_true rfl) rfl ⟨_, rfl, rfl⟩ (Nat.le_of_ble_eq_true rfl) hcs (fun r σC2 hE => ?_)
  refine lj_swap ?_
  refine lj_aload 1 dl_449 rfl rfl ?_
  refine lj_arg (j := 1) ka_450 (by decide) hL (by omega) ?_
  refine lj_arg (j := 2) ka_455 (by decide) hL (by omega) ?_
  refine lj_callI (as := [.int (xs (i + 1)), .int (xs (i + 2))]) (rest := [.int r]) dl_460 hE rfl lc_wX9_next lc_sX9_next rfl (Nat.le_of_ble_eq_true rfl) rfl ⟨_, rfl, rfl⟩ (Nat.le_of_ble_eq_true rfl) hcs (fun r2 σM2 hq => ?_)
  obtain ⟨hr, hB2⟩ := hq
  obtain rfl : r2 = r := by injection hr with hr; injection hr
  exact lj_ieq (tgt := 1051) dl_463 (by decide) (fun _ => kk _ _ hB2) (fun h => absurd rfl h)
set_option maxRecDepth 100000 in
set_option maxHeartbeats 4000000 in
theorem lj_c8 (hL : L ≤ 3072) (hi : i + 6 ≤ L) (hcs : k ≤ 600000 ∧ n ≤ 7302250) (hB : Both σC σM) (kk : ∀ σC2 σM2 : ds_S, Both σC2 σM2 → lj_X b L xs cy 1051 (lj_l b (aC 0) (aM 0) i) [] k n (ds_w cy aC Yc σC2 ++ ds_w cy aM Ym σM2)) : lj_X b L xs cy 468 (lj_l b (aC 0) (aM 0) i) [] k n (ds_w cy aC Yc σC ++ ds_w cy aM Ym σM) := by
  refine lj_aload 2 dl_468 rfl rfl ?_
  refine lj_arg (j := 1) ka_469 (by decide) hL (by omega) ?_
  refine lj_arg (j := 2) ka_474 (by decide) hL (by omega) ?_
  refine lj_arg (j := 3) ka_479 (by decide) hL (by omega) ?_
  refine lj_arg (j := 4) ka_484 (by decide) hL (by omega) ?_
  refine lj_arg (j := 5) ka_489 (by decide) hL (by omega) ?_
  refine lj_swap ?_
  refine lj_callL (as := [.int (xs (i + 1)), .int (xs (i + 2)), .int (xs (i + 3)), .int (xs (i + 4)), .int (xs (i + 5))]) (rest := []) dl_494 (pub_share (xs (i + 1)) (xs (i + 2)) (xs (i + 3)) (xs (i + 4)) (xs (i + 5)) σC σM hB) rfl lc_wX8_share lc_sX8_share rfl (Nat.le_of_ble_eq_true rfl) rfl ⟨_, rfl, rfl⟩ (Nat.le_of_ble_eq_true rfl) hcs (fun r σC2 hE => ?_)
  refine lj_swap ?_
  refine lj_aload 1 dl_497 rfl rfl ?_
  refine lj_arg (j := 1) ka_498 (by decide) hL (by omega) ?_
  refine lj_arg (j := 2) ka_503 (by decide) hL (by omega) ?_
  refine lj_arg (j := 3) ka_508 (by decide) hL (by omega) ?_
  refine lj_arg (j := 4) ka_513 (by decide) hL (by omega) ?_
  refine lj_arg (j := 5) ka_518 (by decide) hL (by omega) ?_
  refine lj_callL (as := [.int (xs (i + 1)), .int (xs (i + 2)), .int (xs (i + 3)), .int (xs (i + 4)), .int (xs (i + 5))]) (rest := [.long r]) dl_523 hE rfl lc_wX9_share lc_sX9_share rfl (Nat.le_of_ble_eq_true rfl) rfl ⟨_, rfl, rfl⟩ (Nat.le_of_ble_eq_true rfl) hcs (fun r2 σM2 hq => ?_)
  obtain ⟨hr, hB2⟩ := hq
  obtain rfl : r2 = r := by injection hr with hr; injection hr
  refine lj_lcmp dl_526 ?_
  exact lj_ifeq (tgt := 1051) dl_527 (by decide) (fun _ => kk _ _ hB2) (fun h => absurd lg_cmp_same h)
set_option maxRecDepth 100000 in
set_option maxHeartbeats 4000000 in
theorem lj_c9 (hL : L ≤ 3072) (hi : i + 6 ≤ L) (hcs : k ≤ 600000 ∧ n ≤ 7302250) (hB : Both σC σM) (kk : ∀ σC2 σM2 : ds_S, Both σC2 σM2 → lj_X b L xs cy 1051 (lj_l b (aC 0) (aM 0) i) [] k n (ds_w cy aC Yc σC2 ++ ds_w cy aM Ym σM2)) : lj_X b L xs cy 532 (lj_l b (aC 0) (aM 0) i) [] k n (ds_w cy aC Yc σC ++ ds_w cy aM Ym σM) := by
  refine lj_aload 2 dl_532 rfl rfl ?_
  refine lj_arg (j := 1) ka_533 (by decide) hL (by omega) ?_
  refine lj_arg (j := 2) ka_538 (by decide) hL (by omega) ?_
  refine lj_arg (j := 3) ka_543 (by decide) hL (by omega) ?_
  refine lj_arg (j := 4) ka_548 (by decide) hL (by omega) ?_
  refine lj_swap ?_
  refine lj_callL (as := [.int (xs (i + 1)), .int (xs (i + 2)), .int (xs (i + 3)), .int (xs (i + 4))]) (rest := []) dl_553 (pub_on (xs (i + 1)) (xs (i + 2)) (xs (i + 3)) (xs (i + 4)) σC σM hB) rfl lc_wX8_on lc_sX8_on rfl (Nat.le_of_ble_eq_true rfl) rfl ⟨_, rfl, rfl⟩ (Nat.le_of_ble_eq_true rfl) hcs (fun r σC2 hE => ?_)
  refine lj_swap ?_
  refine lj_aload 1 dl_556 rfl rfl ?_
  refine lj_arg (j := 1) ka_557 (by decide) hL (by omega) ?_
  refine lj_arg (j := 2) ka_562 (by decide) hL (by omega) ?_
  refine lj_arg (j := 3) ka_567 (by decide) hL (by omega) ?_
  refine lj_arg (j := 4) ka_572 (by decide) hL (by omega) ?_
  refine lj_callL (as := [.int (xs (i + 1)), .int (xs (i + 2)), .int (xs (i + 3)), .int (xs (i + 4))]) (rest := [.long r]) dl_577 hE rfl lc_wX9_on lc_sX9_on rfl (Nat.le_of_ble_eq_true rfl) rfl ⟨_, rfl, rfl⟩ (Nat.le_of_ble_eq_true rfl) hcs (fun r2 σM2 hq => ?_)
  obtain ⟨hr, hB2⟩ := hq
  obtain rfl : r2 = r := by injection hr with hr; injection hr
  refine lj_lcmp dl_580 ?_
  exact lj_ifeq (tgt := 1051) dl_581 (by decide) (fun _ => kk _ _ hB2) (fun h => absurd lg_cmp_same h)
set_option maxRecDepth 100000 in
set_option maxHeartbeats 4000000 in
theorem lj_c10 (hL : L ≤ 3072) (hi : i + 6 ≤ L) (hcs : k ≤ 600000 ∧ n ≤ 7302250) (hB : Both σC σM) (kk : ∀ σC2 σM2 : ds_S, Both σC2 σM2 → lj_X b L xs cy 1051 (lj_l b (aC 0) (aM 0) i) [] k n (ds_w cy aC Yc σC2 ++ ds_w cy aM Ym σM2)) : lj_X b L xs cy 586 (lj_l b (aC 0) (aM 0) i) [] k n (ds_w cy aC Yc σC ++ ds_w cy aM Ym σM) := by
  refine lj_aload 2 dl_586 rfl rfl ?_
  refine lj_arg (j := 1) ka_587 (by decide) hL (by omega) ?_
  refine lj_arg (j := 2) ka_592 (by decide) hL (by omega) ?_
  refine lj_swap ?_
  refine lj_callL (as := [.int (xs (i + 1)), .int (xs (i + 2))]) (rest := []) dl_597 (pub_worst (xs (i + 1)) (xs (i + 2)) σC σM hB) rfl lc_wX8_worst lc_sX8_worst rfl (Nat.le_of_ble_eq_true rfl) rfl ⟨_, rfl, rfl⟩ (Nat.le_of_ble_eq_true rfl) hcs (fun r σC2 hE => ?_)
  refine lj_swap ?_
  refine lj_aload 1 dl_600 rfl rfl ?_
  refine lj_arg (j := 1) ka_601 (by decide) hL (by omega) ?_
  refine lj_arg (j := 2) ka_606 (by decide) hL (by omega) ?_
  refine lj_callL (as := [.int (xs (i + 1)), .int (xs (i + 2))]) (rest := [.long r]) dl_611 hE rfl lc_wX9_worst lc_sX9_worst rfl (Nat.le_of_ble_eq_true rfl) rfl ⟨_, rfl, rfl⟩ (Nat.le_of_ble_eq_true rfl) hcs (fun r2 σM2 hq => ?_)
  obtain ⟨hr, hB2⟩ := hq
  obtain rfl : r2 = r := by injection hr with hr; injection hr
  refine lj_lcmp dl_614 ?_
  exact lj_ifeq (tgt := 1051) dl_615 (by decide) (fun _ => kk _ _ hB2) (fun h => absurd lg_cmp_same h)
set_option maxRecDepth 100000 in
set_option maxHeartbeats 4000000 in
theorem lj_c11 (hL : L ≤ 3072) (hi : i + 6 ≤ L) (hcs : k ≤ 600000 ∧ n ≤ 7302250) (hB : Both σC σM) (kk : ∀ σC2 σM2 : ds_S, Both σC2 σM2 → lj_X b L xs cy 1051 (lj_l b (aC 0) (aM 0) i) [] k n (ds_w cy aC Yc σC2 ++ ds_w cy aM Ym σM2)) : lj_X b L xs cy 620 (lj_l b (aC 0) (aM 0) i) [] k n (ds_w cy aC Yc σC ++ ds_w cy aM Ym σM) := by
  refine lj_aload 2 dl_620 rfl rfl ?_
  refine lj_arg (j := 1) ka_621 (by decide) hL (by omega) ?_
  refine lj_bool kz_626 ?_
  refine lj_swap ?_
  refine lj_callI (as := [.int (if xs (i + 1) = 0 then 0 else 1)]) (rest := []) dl_634 (pub_guard (if xs (i + 1) = 0 then 0 else 1) (by by_cases h : xs (i + 1) = 0 <;> simp [h]) σC σM hB) rfl lc_wX8_guard lc_sX8_guard rfl (Nat.le_of_ble_eq_true rfl) rfl ⟨_, rfl, rfl⟩ (Nat.le_of_ble_eq_true rfl) hcs (fun r σC2 hE => ?_)
  refine lj_swap ?_
  refine lj_aload 1 dl_637 rfl rfl ?_
  refine lj_arg (j := 1) ka_638 (by decide) hL (by omega) ?_
  refine lj_bool kz_643 ?_
  refine lj_callI (as := [.int (if xs (i + 1) = 0 then 0 else 1)]) (rest := [.int r]) dl_651 hE rfl lc_wX9_guard lc_sX9_guard rfl (Nat.le_of_ble_eq_true rfl) rfl ⟨_, rfl, rfl⟩ (Nat.le_of_ble_eq_true rfl) hcs (fun r2 σM2 hq => ?_)
  obtain ⟨hr, hB2⟩ := hq
  obtain rfl : r2 = r := by injection hr with hr; injection hr
  exact lj_ieq (tgt := 1051) dl_654 (by decide) (fun _ => kk _ _ hB2) (fun h => absurd rfl h)
set_option maxRecDepth 100000 in
set_option maxHeartbeats 4000000 in
theorem lj_c12 (hL : L ≤ 3072) (hi : i + 6 ≤ L) (hcs : k ≤ 600000 ∧ n ≤ 7302250) (hB : Both σC σM) (kk : ∀ σC2 σM2 : ds_S, Both σC2 σM2 → lj_X b L xs cy 1051 (lj_l b (aC 0) (aM 0) i) [] k n (ds_w cy aC Yc σC2 ++ ds_w cy aM Ym σM2)) : lj_X b L xs cy 659 (lj_l b (aC 0) (aM 0) i) [] k n (ds_w cy aC Yc σC ++ ds_w cy aM Ym σM) := by
  refine lj_aload 2 dl_659 rfl rfl ?_
  refine lj_arg (j := 1) ka_660 (by decide) hL (by omega) ?_
  refine lj_swap ?_
  refine lj_callL (as := [.int (xs (i + 1))]) (rest := []) dl_665 (pub_all (xs (i + 1)) σC σM hB) rfl lc_wX8_all lc_sX8_all rfl (Nat.le_of_ble_eq_true rfl) rfl ⟨_, rfl, rfl⟩ (Nat.le_of_ble_eq_true rfl) hcs (fun r σC2 hE => ?_)
  refine lj_swap ?_
  refine lj_aload 1 dl_668 rfl rfl ?_
  refine lj_arg (j := 1) ka_669 (by decide) hL (by omega) ?_
  refine lj_callL (as := [.int (xs (i + 1))]) (rest := [.long r]) dl_674 hE rfl lc_wX9_all lc_sX9_all rfl (Nat.le_of_ble_eq_true rfl) rfl ⟨_, rfl, rfl⟩ (Nat.le_of_ble_eq_true rfl) hcs (fun r2 σM2 hq => ?_)
  obtain ⟨hr, hB2⟩ := hq
  obtain rfl : r2 = r := by injection hr with hr; injection hr
  refine lj_lcmp dl_677 ?_
  exact lj_ifeq (tgt := 1051) dl_678 (by decide) (fun _ => kk _ _ hB2) (fun h => absurd lg_cmp_same h)
set_option maxRecDepth 100000 in
set_option maxHeartbeats 4000000 in
theorem lj_c13 (hL : L ≤ 3072) (hi : i + 6 ≤ L) (hcs : k ≤ 600000 ∧ n ≤ 7302250) (hB : Both σC σM) (kk : ∀ σC2 σM2 : ds_S, Both σC2 σM2 → lj_X b L xs cy 1051 (lj_l b (aC 0) (aM 0) i) [] k n (ds_w cy aC Yc σC2 ++ ds_w cy aM Ym σM2)) : lj_X b L xs cy 683 (lj_l b (aC 0) (aM 0) i) [] k n (ds_w cy aC Yc σC ++ ds_w cy aM Ym σM) := by
  refine lj_aload 2 dl_683 rfl rfl ?_
  refine lj_arg (j := 1) ka_684 (by decide) hL (by omega) ?_
  refine lj_arg (j := 2) ka_689 (by decide) hL (by omega) ?_
  refine lj_swap ?_
  refine lj_callI (as := [.int (xs (i + 1)), .int (xs (i + 2))]) (rest := []) dl_694 (pub_parted (xs (i + 1)) (xs (i + 2)) σC σM hB) rfl lc_wX8_parted lc_sX8_parted rfl (Nat.le_of_ble_eq_true rfl) rfl ⟨_, rfl, rfl⟩ (Nat.le_of_ble_eq_true rfl) hcs (fun r σC2 hE => ?_)
  refine lj_swap ?_
  refine lj_aload 1 dl_697 rfl rfl ?_
  refine lj_arg (j := 1) ka_698 (by decide) hL (by omega) ?_
  refine lj_arg (j := 2) ka_703 (by decide) hL (by omega) ?_
  refine lj_callI (as := [.int (xs (i + 1)), .int (xs (i + 2))]) (rest := [.int r]) dl_708 hE rfl lc_wX9_parted lc_sX9_parted rfl (Nat.le_of_ble_eq_true rfl) rfl ⟨_, rfl, rfl⟩ (Nat.le_of_ble_eq_true rfl) hcs (fun r2 σM2 hq => ?_)
  obtain ⟨hr, hB2⟩ := hq
  obtain rfl : r2 = r := by injection hr with hr; injection hr
  exact lj_ieq (tgt := 1051) dl_711 (by decide) (fun _ => kk _ _ hB2) (fun h => absurd rfl h)
set_option maxRecDepth 100000 in
set_option maxHeartbeats 4000000 in
theorem lj_c14 (hL : L ≤ 3072) (hi : i + 6 ≤ L) (hcs : k ≤ 600000 ∧ n ≤ 7302250) (hB : Both σC σM) (kk : ∀ σC2 σM2 : ds_S, Both σC2 σM2 → lj_X b L xs cy 1051 (lj_l b (aC 0) (aM 0) i) [] k n (ds_w cy aC Yc σC2 ++ ds_w cy aM Ym σM2)) : lj_X b L xs cy 716 (lj_l b (aC 0) (aM 0) i) [] k n (ds_w cy aC Yc σC ++ ds_w cy aM Ym σM) := by
  refine lj_aload 2 dl_716 rfl rfl ?_
  refine lj_arg (j := 1) ka_717 (by decide) hL (by omega) ?_
  refine lj_arg (j := 2) ka_722 (by decide) hL (by omega) ?_
  refine lj_arg (j := 3) ka_727 (by decide) hL (by omega) ?_
  refine lj_swap ?_
  refine lj_callI (as := [.int (xs (i + 1)), .int (xs (i + 2)), .int (xs (i + 3))]) (rest := []) dl_732 (pub_who (xs (i + 1)) (xs (i + 2)) (xs (i + 3)) σC σM hB) rfl lc_wX8_who lc_sX8_who rfl (Nat.le_of_ble_eq_true rfl) rfl ⟨_, rfl, rfl⟩ (Nat.le_of_ble_eq_true rfl) hcs (fun r σC2 hE => ?_)
  refine lj_swap ?_
  refine lj_aload 1 dl_735 rfl rfl ?_
  refine lj_arg (j := 1) ka_736 (by decide) hL (by omega) ?_
  refine lj_arg (j := 2) ka_741 (by decide) hL (by omega) ?_
  refine lj_arg (j := 3) ka_746 (by decide) hL (by omega) ?_
  refine lj_callI (as := [.int (xs (i + 1)), .int (xs (i + 2)), .int (xs (i + 3))]) (rest := [.int r]) dl_751 hE rfl lc_wX9_who lc_sX9_who rfl (Nat.le_of_ble_eq_true rfl) rfl ⟨_, rfl, rfl⟩ (Nat.le_of_ble_eq_true rfl) hcs (fun r2 σM2 hq => ?_)
  obtain ⟨hr, hB2⟩ := hq
  obtain rfl : r2 = r := by injection hr with hr; injection hr
  exact lj_ieq (tgt := 1051) dl_754 (by decide) (fun _ => kk _ _ hB2) (fun h => absurd rfl h)
set_option maxRecDepth 100000 in
set_option maxHeartbeats 4000000 in
theorem lj_c15 (hL : L ≤ 3072) (hi : i + 6 ≤ L) (hcs : k ≤ 600000 ∧ n ≤ 7302250) (hB : Both σC σM) (kk : ∀ σC2 σM2 : ds_S, Both σC2 σM2 → lj_X b L xs cy 1051 (lj_l b (aC 0) (aM 0) i) [] k n (ds_w cy aC Yc σC2 ++ ds_w cy aM Ym σM2)) : lj_X b L xs cy 759 (lj_l b (aC 0) (aM 0) i) [] k n (ds_w cy aC Yc σC ++ ds_w cy aM Ym σM) := by
  refine lj_aload 2 dl_759 rfl rfl ?_
  refine lj_arg (j := 1) ka_760 (by decide) hL (by omega) ?_
  refine lj_arg (j := 2) ka_765 (by decide) hL (by omega) ?_
  refine lj_swap ?_
  refine lj_callI (as := [.int (xs (i + 1)), .int (xs (i + 2))]) (rest := []) dl_770 (pub_seek (xs (i + 1)) (xs (i + 2)) σC σM hB) rfl lc_wX8_seek lc_sX8_seek rfl (Nat.le_of_ble_eq_true rfl) rfl ⟨_, rfl, rfl⟩ (Nat.le_of_ble_eq_true rfl) hcs (fun r σC2 hE => ?_)
  refine lj_swap ?_
  refine lj_aload 1 dl_773 rfl rfl ?_
  refine lj_arg (j := 1) ka_774 (by decide) hL (by omega) ?_
  refine lj_arg (j := 2) ka_779 (by decide) hL (by omega) ?_
  refine lj_callI (as := [.int (xs (i + 1)), .int (xs (i + 2))]) (rest := [.int r]) dl_784 hE rfl lc_wX9_seek lc_sX9_seek rfl (Nat.le_of_ble_eq_true rfl) rfl ⟨_, rfl, rfl⟩ (Nat.le_of_ble_eq_true rfl) hcs (fun r2 σM2 hq => ?_)
  obtain ⟨hr, hB2⟩ := hq
  obtain rfl : r2 = r := by injection hr with hr; injection hr
  exact lj_ieq (tgt := 1051) dl_787 (by decide) (fun _ => kk _ _ hB2) (fun h => absurd rfl h)
set_option maxRecDepth 100000 in
set_option maxHeartbeats 4000000 in
theorem lj_c16 (hL : L ≤ 3072) (hi : i + 6 ≤ L) (hcs : k ≤ 600000 ∧ n ≤ 7302250) (hB : Both σC σM) (kk : ∀ σC2 σM2 : ds_S, Both σC2 σM2 → lj_X b L xs cy 1051 (lj_l b (aC 0) (aM 0) i) [] k n (ds_w cy aC Yc σC2 ++ ds_w cy aM Ym σM2)) : lj_X b L xs cy 792 (lj_l b (aC 0) (aM 0) i) [] k n (ds_w cy aC Yc σC ++ ds_w cy aM Ym σM) := by
  refine lj_aload 2 dl_792 rfl rfl ?_
  refine lj_arg (j := 1) ka_793 (by decide) hL (by omega) ?_
  refine lj_swap ?_
  refine lj_callI (as := [.int (xs (i + 1))]) (rest := []) dl_798 (pub_sought (xs (i + 1)) σC σM hB) rfl lc_wX8_sought lc_sX8_sought rfl (Nat.le_of_ble_eq_true rfl) rfl ⟨_, rfl, rfl⟩ (Nat.le_of_ble_eq_true rfl) hcs (fun r σC2 hE => ?_)
  refine lj_swap ?_
  refine lj_aload 1 dl_801 rfl rfl ?_
  refine lj_arg (j := 1) ka_802 (by decide) hL (by omega) ?_
  refine lj_callI (as := [.int (xs (i + 1))]) (rest := [.int r]) dl_807 hE rfl lc_wX9_sought lc_sX9_sought rfl (Nat.le_of_ble_eq_true rfl) rfl ⟨_, rfl, rfl⟩ (Nat.le_of_ble_eq_true rfl) hcs (fun r2 σM2 hq => ?_)
  obtain ⟨hr, hB2⟩ := hq
  obtain rfl : r2 = r := by injection hr with hr; injection hr
  exact lj_ieq (tgt := 1051) dl_810 (by decide) (fun _ => kk _ _ hB2) (fun h => absurd rfl h)
set_option maxRecDepth 100000 in
set_option maxHeartbeats 4000000 in
theorem lj_c17 (hL : L ≤ 3072) (hi : i + 6 ≤ L) (hcs : k ≤ 600000 ∧ n ≤ 7302250) (hB : Both σC σM) (kk : ∀ σC2 σM2 : ds_S, Both σC2 σM2 → lj_X b L xs cy 1051 (lj_l b (aC 0) (aM 0) i) [] k n (ds_w cy aC Yc σC2 ++ ds_w cy aM Ym σM2)) : lj_X b L xs cy 815 (lj_l b (aC 0) (aM 0) i) [] k n (ds_w cy aC Yc σC ++ ds_w cy aM Ym σM) := by
  refine lj_aload 2 dl_815 rfl rfl ?_
  refine lj_arg (j := 1) ka_816 (by decide) hL (by omega) ?_
  refine lj_swap ?_
  refine lj_callL (as := [.int (xs (i + 1))]) (rest := []) dl_821 (pub_better (xs (i + 1)) σC σM hB) rfl lc_wX8_better lc_sX8_better rfl (Nat.le_of_ble_eq_true rfl) rfl ⟨_, rfl, rfl⟩ (Nat.le_of_ble_eq_true rfl) hcs (fun r σC2 hE => ?_)
  refine lj_swap ?_
  refine lj_aload 1 dl_824 rfl rfl ?_
  refine lj_arg (j := 1) ka_825 (by decide) hL (by omega) ?_
  refine lj_callL (as := [.int (xs (i + 1))]) (rest := [.long r]) dl_830 hE rfl lc_wX9_better lc_sX9_better rfl (Nat.le_of_ble_eq_true rfl) rfl ⟨_, rfl, rfl⟩ (Nat.le_of_ble_eq_true rfl) hcs (fun r2 σM2 hq => ?_)
  obtain ⟨hr, hB2⟩ := hq
  obtain rfl : r2 = r := by injection hr with hr; injection hr
  refine lj_lcmp dl_833 ?_
  exact lj_ifeq (tgt := 1051) dl_834 (by decide) (fun _ => kk _ _ hB2) (fun h => absurd lg_cmp_same h)
set_option maxRecDepth 100000 in
set_option maxHeartbeats 4000000 in
theorem lj_c18 (hL : L ≤ 3072) (hi : i + 6 ≤ L) (hcs : k ≤ 600000 ∧ n ≤ 7302250) (hB : Both σC σM) (kk : ∀ σC2 σM2 : ds_S, Both σC2 σM2 → lj_X b L xs cy 1051 (lj_l b (aC 0) (aM 0) i) [] k n (ds_w cy aC Yc σC2 ++ ds_w cy aM Ym σM2)) : lj_X b L xs cy 839 (lj_l b (aC 0) (aM 0) i) [] k n (ds_w cy aC Yc σC ++ ds_w cy aM Ym σM) := by
  refine lj_aload 2 dl_839 rfl rfl ?_
  refine lj_swap ?_
  refine lj_callI (as := []) (rest := []) dl_840 (pub_take σC σM hB) rfl lc_wX8_take lc_sX8_take rfl (Nat.le_of_ble_eq_true rfl) rfl ⟨_, rfl, rfl⟩ (Nat.le_of_ble_eq_true rfl) hcs (fun r σC2 hE => ?_)
  refine lj_swap ?_
  refine lj_aload 1 dl_843 rfl rfl ?_
  refine lj_callI (as := []) (rest := [.int r]) dl_844 hE rfl lc_wX9_take lc_sX9_take rfl (Nat.le_of_ble_eq_true rfl) rfl ⟨_, rfl, rfl⟩ (Nat.le_of_ble_eq_true rfl) hcs (fun r2 σM2 hq => ?_)
  obtain ⟨hr, hB2⟩ := hq
  obtain rfl : r2 = r := by injection hr with hr; injection hr
  exact lj_ieq (tgt := 1051) dl_847 (by decide) (fun _ => kk _ _ hB2) (fun h => absurd rfl h)
set_option maxRecDepth 100000 in
set_option maxHeartbeats 4000000 in
theorem lj_c19 (hL : L ≤ 3072) (hi : i + 6 ≤ L) (hcs : k ≤ 600000 ∧ n ≤ 7302250) (hB : Both σC σM) (kk : ∀ σC2 σM2 : ds_S, Both σC2 σM2 → lj_X b L xs cy 1051 (lj_l b (aC 0) (aM 0) i) [] k n (ds_w cy aC Yc σC2 ++ ds_w cy aM Ym σM2)) : lj_X b L xs cy 852 (lj_l b (aC 0) (aM 0) i) [] k n (ds_w cy aC Yc σC ++ ds_w cy aM Ym σM) := by
  refine lj_aload 2 dl_852 rfl rfl ?_
  refine lj_arg (j := 1) ka_853 (by decide) hL (by omega) ?_
  refine lj_arg (j := 2) ka_858 (by decide) hL (by omega) ?_
  refine lj_swap ?_
  refine lj_callI (as := [.int (xs (i + 1)), .int (xs (i + 2))]) (rest := []) dl_863 (pub_ring (xs (i + 1)) (xs (i + 2)) σC σM hB) rfl lc_wX8_ring lc_sX8_ring rfl (Nat.le_of_ble_eq_true rfl) rfl ⟨_, rfl, rfl⟩ (Nat.le_of_ble_eq_true rfl) hcs (fun r σC2 hE => ?_)
  refine lj_swap ?_
  refine lj_aload 1 dl_866 rfl rfl ?_
  refine lj_arg (j := 1) ka_867 (by decide) hL (by omega) ?_
  refine lj_arg (j := 2) ka_872 (by decide) hL (by omega) ?_
  refine lj_callI (as := [.int (xs (i + 1)), .int (xs (i + 2))]) (rest := [.int r]) dl_877 hE rfl lc_wX9_ring lc_sX9_ring rfl (Nat.le_of_ble_eq_true rfl) rfl ⟨_, rfl, rfl⟩ (Nat.le_of_ble_eq_true rfl) hcs (fun r2 σM2 hq => ?_)
  obtain ⟨hr, hB2⟩ := hq
  obtain rfl : r2 = r := by injection hr with hr; injection hr
  exact lj_ieq (tgt := 1051) dl_880 (by decide) (fun _ => kk _ _ hB2) (fun h => absurd rfl h)
set_option maxRecDepth 100000 in
set_option maxHeartbeats 4000000 in
theorem lj_c20 (hL : L ≤ 3072) (hi : i + 6 ≤ L) (hcs : k ≤ 600000 ∧ n ≤ 7302250) (hB : Both σC σM) (kk : ∀ σC2 σM2 : ds_S, Both σC2 σM2 → lj_X b L xs cy 1051 (lj_l b (aC 0) (aM 0) i) [] k n (ds_w cy aC Yc σC2 ++ ds_w cy aM Ym σM2)) : lj_X b L xs cy 885 (lj_l b (aC 0) (aM 0) i) [] k n (ds_w cy aC Yc σC ++ ds_w cy aM Ym σM) := by
  refine lj_aload 2 dl_885 rfl rfl ?_
  refine lj_arg (j := 1) ka_886 (by decide) hL (by omega) ?_
  refine lj_arg (j := 2) ka_891 (by decide) hL (by omega) ?_
  refine lj_swap ?_
  refine lj_callI (as := [.int (xs (i + 1)), .int (xs (i + 2))]) (rest := []) dl_896 (pub_between (xs (i + 1)) (xs (i + 2)) σC σM hB) rfl lc_wX8_between lc_sX8_between rfl (Nat.le_of_ble_eq_true rfl) rfl ⟨_, rfl, rfl⟩ (Nat.le_of_ble_eq_true rfl) hcs (fun r σC2 hE => ?_)
  refine lj_swap ?_
  refine lj_aload 1 dl_899 rfl rfl ?_
  refine lj_arg (j := 1) ka_900 (by decide) hL (by omega) ?_
  refine lj_arg (j := 2) ka_905 (by decide) hL (by omega) ?_
  refine lj_callI (as := [.int (xs (i + 1)), .int (xs (i + 2))]) (rest := [.int r]) dl_910 hE rfl lc_wX9_between lc_sX9_between rfl (Nat.le_of_ble_eq_true rfl) rfl ⟨_, rfl, rfl⟩ (Nat.le_of_ble_eq_true rfl) hcs (fun r2 σM2 hq => ?_)
  obtain ⟨hr, hB2⟩ := hq
  obtain rfl : r2 = r := by injection hr with hr; injection hr
  exact lj_ieq (tgt := 1051) dl_913 (by decide) (fun _ => kk _ _ hB2) (fun h => absurd rfl h)
set_option maxRecDepth 100000 in
set_option maxHeartbeats 4000000 in
theorem lj_c21 (hL : L ≤ 3072) (hi : i + 6 ≤ L) (hcs : k ≤ 600000 ∧ n ≤ 7302250) (hB : Both σC σM) (kk : ∀ σC2 σM2 : ds_S, Both σC2 σM2 → lj_X b L xs cy 1051 (lj_l b (aC 0) (aM 0) i) [] k n (ds_w cy aC Yc σC2 ++ ds_w cy aM Ym σM2)) : lj_X b L xs cy 918 (lj_l b (aC 0) (aM 0) i) [] k n (ds_w cy aC Yc σC ++ ds_w cy aM Ym σM) := by
  refine lj_aload 2 dl_918 rfl rfl ?_
  refine lj_arg (j := 1) ka_919 (by decide) hL (by omega) ?_
  refine lj_arg (j := 2) ka_924 (by decide) hL (by omega) ?_
  refine lj_arg (j := 3) ka_929 (by decide) hL (by omega) ?_
  refine lj_swap ?_
  refine lj_callI (as := [.int (xs (i + 1)), .int (xs (i + 2)), .int (xs (i + 3))]) (rest := []) dl_934 (pub_value (xs (i + 1)) (xs (i + 2)) (xs (i + 3)) σC σM hB) rfl lc_wX8_value lc_sX8_value rfl (Nat.le_of_ble_eq_true rfl) rfl ⟨_, rfl, rfl⟩ (Nat.le_of_ble_eq_true rfl) hcs (fun r σC2 hE => ?_)
  refine lj_swap ?_
  refine lj_aload 1 dl_937 rfl rfl ?_
  refine lj_arg (j := 1) ka_938 (by decide) hL (by omega) ?_
  refine lj_arg (j := 2) ka_943 (by decide) hL (by omega) ?_
  refine lj_arg (j := 3) ka_948 (by decide) hL (by omega) ?_
  refine lj_callI (as := [.int (xs (i + 1)), .int (xs (i + 2)), .int (xs (i + 3))]) (rest := [.int r]) dl_953 hE rfl lc_wX9_value lc_sX9_value rfl (Nat.le_of_ble_eq_true rfl) rfl ⟨_, rfl, rfl⟩ (Nat.le_of_ble_eq_true rfl) hcs (fun r2 σM2 hq => ?_)
  obtain ⟨hr, hB2⟩ := hq
  obtain rfl : r2 = r := by injection hr with hr; injection hr
  exact lj_ieq (tgt := 1051) dl_956 (by decide) (fun _ => kk _ _ hB2) (fun h => absurd rfl h)
set_option maxRecDepth 100000 in
set_option maxHeartbeats 4000000 in
theorem lj_c22 (hL : L ≤ 3072) (hi : i + 6 ≤ L) (hcs : k ≤ 600000 ∧ n ≤ 7302250) (hB : Both σC σM) (kk : ∀ σC2 σM2 : ds_S, Both σC2 σM2 → lj_X b L xs cy 1051 (lj_l b (aC 0) (aM 0) i) [] k n (ds_w cy aC Yc σC2 ++ ds_w cy aM Ym σM2)) : lj_X b L xs cy 961 (lj_l b (aC 0) (aM 0) i) [] k n (ds_w cy aC Yc σC ++ ds_w cy aM Ym σM) := by
  refine lj_aload 2 dl_961 rfl rfl ?_
  refine lj_arg (j := 1) ka_962 (by decide) hL (by omega) ?_
  refine lj_arg (j := 2) ka_967 (by decide) hL (by omega) ?_
  refine lj_swap ?_
  refine lj_callL (as := [.int (xs (i + 1)), .int (xs (i + 2))]) (rest := []) dl_972 (pub_grow (xs (i + 1)) (xs (i + 2)) σC σM hB) rfl lc_wX8_grow lc_sX8_grow rfl (Nat.le_of_ble_eq_true rfl) rfl ⟨_, rfl, rfl⟩ (Nat.le_of_ble_eq_true rfl) hcs (fun r σC2 hE => ?_)
  refine lj_swap ?_
  refine lj_aload 1 dl_975 rfl rfl ?_
  refine lj_arg (j := 1) ka_976 (by decide) hL (by omega) ?_
  refine lj_arg (j := 2) ka_981 (by decide) hL (by omega) ?_
  refine lj_callL (as := [.int (xs (i + 1)), .int (xs (i + 2))]) (rest := [.long r]) dl_986 hE rfl lc_wX9_grow lc_sX9_grow rfl (Nat.le_of_ble_eq_true rfl) rfl ⟨_, rfl, rfl⟩ (Nat.le_of_ble_eq_true rfl) hcs (fun r2 σM2 hq => ?_)
  obtain ⟨hr, hB2⟩ := hq
  obtain rfl : r2 = r := by injection hr with hr; injection hr
  refine lj_lcmp dl_989 ?_
  exact lj_ifeq (tgt := 1051) dl_990 (by decide) (fun _ => kk _ _ hB2) (fun h => absurd lg_cmp_same h)
set_option maxRecDepth 100000 in
set_option maxHeartbeats 4000000 in
theorem lj_c23 (hL : L ≤ 3072) (hi : i + 6 ≤ L) (hcs : k ≤ 600000 ∧ n ≤ 7302250) (hB : Both σC σM) (kk : ∀ σC2 σM2 : ds_S, Both σC2 σM2 → lj_X b L xs cy 1051 (lj_l b (aC 0) (aM 0) i) [] k n (ds_w cy aC Yc σC2 ++ ds_w cy aM Ym σM2)) : lj_X b L xs cy 995 (lj_l b (aC 0) (aM 0) i) [] k n (ds_w cy aC Yc σC ++ ds_w cy aM Ym σM) := by
  refine lj_aload 2 dl_995 rfl rfl ?_
  refine lj_arg (j := 1) ka_996 (by decide) hL (by omega) ?_
  refine lj_arg (j := 2) ka_1001 (by decide) hL (by omega) ?_
  refine lj_swap ?_
  refine lj_callI (as := [.int (xs (i + 1)), .int (xs (i + 2))]) (rest := []) dl_1006 (pub_year (xs (i + 1)) (xs (i + 2)) σC σM hB) rfl lc_wX8_year lc_sX8_year rfl (Nat.le_of_ble_eq_true rfl) rfl ⟨_, rfl, rfl⟩ (Nat.le_of_ble_eq_true rfl) hcs (fun r σC2 hE => ?_)
  refine lj_swap ?_
  refine lj_aload 1 dl_1009 rfl rfl ?_
  refine lj_arg (j := 1) ka_1010 (by decide) hL (by omega) ?_
  refine lj_arg (j := 2) ka_1015 (by decide) hL (by omega) ?_
  refine lj_callI (as := [.int (xs (i + 1)), .int (xs (i + 2))]) (rest := [.int r]) dl_1020 hE rfl lc_wX9_year lc_sX9_year rfl (Nat.le_of_ble_eq_true rfl) rfl ⟨_, rfl, rfl⟩ (Nat.le_of_ble_eq_true rfl) hcs (fun r2 σM2 hq => ?_)
  obtain ⟨hr, hB2⟩ := hq
  obtain rfl : r2 = r := by injection hr with hr; injection hr
  exact lj_ieq (tgt := 1051) dl_1023 (by decide) (fun _ => kk _ _ hB2) (fun h => absurd rfl h)
set_option maxRecDepth 100000 in
set_option maxHeartbeats 4000000 in
theorem lj_c24 (hL : L ≤ 3072) (hi : i + 6 ≤ L) (hcs : k ≤ 600000 ∧ n ≤ 7302250) (hB : Both σC σM) (kk : ∀ σC2 σM2 : ds_S, Both σC2 σM2 → lj_X b L xs cy 1051 (lj_l b (aC 0) (aM 0) i) [] k n (ds_w cy aC Yc σC2 ++ ds_w cy aM Ym σM2)) : lj_X b L xs cy 1028 (lj_l b (aC 0) (aM 0) i) [] k n (ds_w cy aC Yc σC ++ ds_w cy aM Ym σM) := by
  refine lj_aload 2 dl_1028 rfl rfl ?_
  refine lj_arg (j := 1) ka_1029 (by decide) hL (by omega) ?_
  refine lj_swap ?_
  refine lj_callI (as := [.int (xs (i + 1))]) (rest := []) dl_1034 (pub_told (xs (i + 1)) σC σM hB) rfl lc_wX8_told lc_sX8_told rfl (Nat.le_of_ble_eq_true rfl) rfl ⟨_, rfl, rfl⟩ (Nat.le_of_ble_eq_true rfl) hcs (fun r σC2 hE => ?_)
  refine lj_swap ?_
  refine lj_aload 1 dl_1037 rfl rfl ?_
  refine lj_arg (j := 1) ka_1038 (by decide) hL (by omega) ?_
  refine lj_callI (as := [.int (xs (i + 1))]) (rest := [.int r]) dl_1043 hE rfl lc_wX9_told lc_sX9_told rfl (Nat.le_of_ble_eq_true rfl) rfl ⟨_, rfl, rfl⟩ (Nat.le_of_ble_eq_true rfl) hcs (fun r2 σM2 hq => ?_)
  obtain ⟨hr, hB2⟩ := hq
  obtain rfl : r2 = r := by injection hr with hr; injection hr
  exact lj_ieq (tgt := 1051) dl_1046 (by decide) (fun _ => kk _ _ hB2) (fun h => absurd rfl h)
end LJC
