set_option maxRecDepth 100000 in
set_option maxHeartbeats 4000000 in
/-- the law from its first instruction -/
theorem lj_all {b L : Nat} {xs : Nat → Int32} {cy : Nat → ClassId} (hL : L ≤ 3072) : lj_X b L xs cy 0 [(0, .ref b)] [] 0 0 [] := by
  refine lj_new (ci := 8) (q := (RX8, TX8, 9)) (fs := f0_X8) dl_0 rfl lc_c8 zt_X8 zv_X8 tyX8 tyX8_ok f0_X8_ok (Nat.le_of_ble_eq_true rfl) (Nat.le_of_ble_eq_true rfl) (fun a => ?_)
  refine lj_dup dl_3 ?_
  refine lj_init (wr := []) (rest := [.ref a]) dl_4 (ct_X8 a) lc_wX8_init rfl rfl (Nat.le_of_ble_eq_true rfl) (Nat.le_of_ble_eq_true rfl) (Nat.le_of_ble_eq_true rfl) (fun w1 hw1 => ?_)
  obtain ⟨q1, q2, q3, q4, q5, q6, q7, q8, q9, q10, q11, q12, q13, q14, q15, q16, q17, q18, q19, q20, q21, q22, q23, q24, q25, q26, q27, q28, q29, q30, q31, q32, q33, q34, q35, q36, q37, q38, q39, q40, q41, q42, q43, q44, q45, q46, q47, q48, q49, q50, q51, q52, q53, q54, q55, q56, q57, q58, q59, q60, q61, q62, q63, q64, rfl⟩ := hw1
  obtain ⟨aC, hC, hp, hd⟩ := cw_C cy a q1 q2 q3 q4 q5 q6 q7 q8 q9 q10 q11 q12 q13 q14 q15 q16 q17 q18 q19 q20 q21 q22 q23 q24 q25 q26 q27 q28 q29 q30 q31 q32 q33 q34 q35 q36 q37 q38 q39 q40 q41 q42 q43 q44 q45 q46 q47 q48 q49 q50 q51 q52 q53 q54 q55 q56 q57 q58 q59 q60 q61 q62 q63 q64
  rw [List.nil_append]
  refine lj_conv hp hd ?_
  subst hC
  refine lj_astore (lv' := [(1, .ref (aC 0)), (0, .ref b)]) dl_7 rfl (by decide) rfl ?_
  refine lj_new (ci := 9) (q := (RX9, TX9, 33)) (fs := f0_X9) dl_8 rfl lc_c9 zt_X9 zv_X9 tyX9 tyX9_ok f0_X9_ok (Nat.le_of_ble_eq_true rfl) (Nat.le_of_ble_eq_true rfl) (fun a2 => ?_)
  refine lj_dup dl_11 ?_
  refine lj_init (wr := ds_w cy aC Yc sC0) (rest := [.ref a2]) dl_12 (ct_X9 a2) lc_wX9_init rfl rfl (Nat.le_of_ble_eq_true rfl) (Nat.le_of_ble_eq_true rfl) (Nat.le_of_ble_eq_true rfl) (fun w1 hw1 => ?_)
  obtain ⟨p1, p2, p3, p4, p5, p6, p7, p8, p9, p10, p11, p12, p13, p14, p15, p16, p17, p18, rfl⟩ := hw1
  obtain ⟨aM, hM, hw⟩ := cw_M cy a2 p1 p2 p3 p4 p5 p6 p7 p8 p9 p10 p11 p12 p13 p14 p15 p16 p17 p18
  rw [hw]
  subst hM
  refine lj_astore (lv' := [(2, .ref (aM 0)), (1, .ref (aC 0)), (0, .ref b)]) dl_15 rfl (by decide) rfl ?_
  refine lj_iconst 0 dl_16 (by decide) ?_
  refine lj_istore (lv' := lj_l b (aC 0) (aM 0) 0) dl_17 rfl (by decide) rfl ?_
  exact lj_loop hL ⟨Nat.le_of_ble_eq_true rfl, Nat.le_of_ble_eq_true rfl⟩ (L + 1) 0 sC0 sM0 (by omega) (Nat.zero_le L) both0
/-- from the entry, for every script of at most 3072 ints, the law comes to its end with true -/
theorem whole_start {p : Program} {e : Env} {s : State} {m : MethodId} {below : List Frame} {meth : Method} {c : Code} (l : Launch) {b L : Nat} {xs : Nat → Int32} (hL : L ≤ 3072) (C0 : lw_At p s m meth c b L xs) : W p l e room_1 s m #[Value.ref b] below meth c s.heap [] 0 0 (lw_Z below #[Value.ref b] s) (entryFrame m ([Value.ref b] : List Value).toArray 4) := by
  obtain ⟨hx, hb, hr, hml, hown, hts, hX, hbl, hlocks, hgv⟩ := C0
  obtain ⟨cy, dC, dI, hK, hZ, hN⟩ := lj_known hts
  have hl := lv_entry ([.ref b]) (n := 4) (Nat.le_of_ble_eq_true rfl)
  rw [lg_entry_eq]
  generalize (lg_sl ([.ref b]) ++ List.replicate (4 - (lg_sl ([.ref b])).length) Slot.unset).toArray = ls at hl ⊢
  have hl : lv_has ls 4 [(0, .ref b)] := hl
  have hP : va_P (dC, dI) vwCl [] s.heap := fun k q h => by simp at h
  have hD : va_D (fun q : Nat => s.heap.size ≤ q) [] := ⟨fun i j p q h => by simp at h, fun k q h => by simp at h⟩
  exact lj_all hL p l e s m below meth c dC dI ⟨hx, hb, hml, hr, hlocks, fun w h => hts w (List.mem_filter.mp h).1, hown, hK, hZ, hN, hX, hbl⟩ s.heap [] hP hD va_S.rf ls hl
