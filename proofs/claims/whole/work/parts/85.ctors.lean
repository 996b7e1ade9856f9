def cw_X3 (cy : Nat → ClassId) (h0 : Nat) : va_W := (h0, .inr (3, [.long 0, .int 0, .int 0, .int 0, .int 0, .int 0])) :: ([])
set_option maxRecDepth 100000 in
set_option maxHeartbeats 4000000 in
theorem ct_X3 (h0 : Nat) : di_E mt_X3_init 0 0 [.ref h0] [(h0, .inr (3, f0_X3))] (fun cy w1 => w1 = cw_X3 cy h0) := by
  refine di_enter rfl rfl rfl (Nat.le_of_ble_eq_true rfl) (fun cy => ?_)
  refine di_aload 0 dc_X3_0 rfl rfl ?_
  refine di_oi dc_X3_1 ml_X3_3 (Nat.le_of_ble_eq_true rfl) (Nat.le_of_ble_eq_true rfl) ?_
  exact di_ret dc_X3_4 (Nat.le_of_ble_eq_true rfl) (Nat.le_of_ble_eq_true rfl) rfl
def cw_X1 (cy : Nat → ClassId) (h0 q1 q2 q3 q4 : Nat) : va_W := (h0, .inr (1, [.int (4), .int 0, .ref q1, .ref q2, .ref q3, .ref q4, .int 0, .int 0])) :: ([] ++ [(q1, .inl (cy 10, 10, .inl (fun _ => 0)))] ++ [(q2, .inl (cy 10, 10, .inl (fun _ => 0)))] ++ [(q3, .inl (cy 10, 10, .inl (fun _ => 0)))] ++ [(q4, .inl (cy 10, 10, .inl (fun _ => 0)))])
set_option maxRecDepth 100000 in
set_option maxHeartbeats 4000000 in
theorem ct_X1 (h0 : Nat) : di_E mt_X1_init 4 40 [.ref h0] [(h0, .inr (1, f0_X1))] (fun cy w1 => ∃ q1 q2 q3 q4 : Nat, w1 = cw_X1 cy h0 q1 q2 q3 q4) := by
  refine di_enter rfl rfl rfl (Nat.le_of_ble_eq_true rfl) (fun cy => ?_)
  refine di_aload 0 dc_X1_0 rfl rfl ?_
  refine di_oi dc_X1_1 ml_X1_3 (Nat.le_of_ble_eq_true rfl) (Nat.le_of_ble_eq_true rfl) ?_
  refine di_aload 0 dc_X1_4 rfl rfl ?_
  refine di_iconst (4) dc_X1_5 (by decide) ?_
  refine di_putE [.int (4), .int 0, .null, .null, .null, .null, .int 0, .int 0] dc_X1_6 fl_X1_9 fp_X1_9 rfl rfl (Nat.le_of_ble_eq_true rfl) rfl ?_
  refine di_aload 0 dc_X1_9 rfl rfl ?_
  refine di_bipush (10) dc_X1_10 (by decide) ?_
  refine di_arrI 10 dc_X1_12 (by decide) (by decide) (by decide) (Nat.le_of_ble_eq_true rfl) (Nat.le_of_ble_eq_true rfl) (fun q1 => ?_)
  refine di_putE [.int (4), .int 0, .ref q1, .null, .null, .null, .int 0, .int 0] dc_X1_14 fl_X1_15 fp_X1_15 rfl rfl (Nat.le_of_ble_eq_true rfl) rfl ?_
  refine di_aload 0 dc_X1_17 rfl rfl ?_
  refine di_bipush (10) dc_X1_18 (by decide) ?_
  refine di_arrI 10 dc_X1_20 (by decide) (by decide) (by decide) (Nat.le_of_ble_eq_true rfl) (Nat.le_of_ble_eq_true rfl) (fun q2 => ?_)
  refine di_putE [.int (4), .int 0, .ref q1, .ref q2, .null, .null, .int 0, .int 0] dc_X1_22 fl_X1_19 fp_X1_19 rfl rfl (Nat.le_of_ble_eq_true rfl) rfl ?_
  refine di_aload 0 dc_X1_25 rfl rfl ?_
  refine di_bipush (10) dc_X1_26 (by decide) ?_
  refine di_arrI 10 dc_X1_28 (by decide) (by decide) (by decide) (Nat.le_of_ble_eq_true rfl) (Nat.le_of_ble_eq_true rfl) (fun q3 => ?_)
  refine di_putE [.int (4), .int 0, .ref q1, .ref q2, .ref q3, .null, .int 0, .int 0] dc_X1_30 fl_X1_22 fp_X1_22 rfl rfl (Nat.le_of_ble_eq_true rfl) rfl ?_
  refine di_aload 0 dc_X1_33 rfl rfl ?_
  refine di_bipush (10) dc_X1_34 (by decide) ?_
  refine di_arrI 10 dc_X1_36 (by decide) (by decide) (by decide) (Nat.le_of_ble_eq_true rfl) (Nat.le_of_ble_eq_true rfl) (fun q4 => ?_)
  refine di_putE [.int (4), .int 0, .ref q1, .ref q2, .ref q3, .ref q4, .int 0, .int 0] dc_X1_38 fl_X1_25 fp_X1_25 rfl rfl (Nat.le_of_ble_eq_true rfl) rfl ?_
  exact di_ret dc_X1_41 (Nat.le_of_ble_eq_true rfl) (Nat.le_of_ble_eq_true rfl) ⟨q1, q2, q3, q4, rfl⟩
def cw_X0 (cy : Nat → ClassId) (h0 q1 q2 : Nat) : va_W := (h0, .inr (0, [.ref q1, .ref q2])) :: ([] ++ [(q1, .inl (cy 11, 6, .inr (.inl (fun _ => 0))))] ++ [(q2, .inl (cy 11, 20, .inr (.inl (fun _ => 0))))])
set_option maxRecDepth 100000 in
set_option maxHeartbeats 4000000 in
theorem ct_X0 (h0 : Nat) : di_E mt_X0_init 2 26 [.ref h0] [(h0, .inr (0, f0_X0))] (fun cy w1 => ∃ q1 q2 : Nat, w1 = cw_X0 cy h0 q1 q2) := by
  refine di_enter rfl rfl rfl (Nat.le_of_ble_eq_true rfl) (fun cy => ?_)
  refine di_aload 0 dc_X0_0 rfl rfl ?_
  refine di_oi dc_X0_1 ml_X0_3 (Nat.le_of_ble_eq_true rfl) (Nat.le_of_ble_eq_true rfl) ?_
  refine di_aload 0 dc_X0_4 rfl rfl ?_
  refine di_bipush (6) dc_X0_5 (by decide) ?_
  refine di_arrL 6 dc_X0_7 (by decide) (by decide) (by decide) (Nat.le_of_ble_eq_true rfl) (Nat.le_of_ble_eq_true rfl) (fun q1 => ?_)
  refine di_putE [.ref q1, .null] dc_X0_9 fl_X0_9 fp_X0_9 rfl rfl (Nat.le_of_ble_eq_true rfl) rfl ?_
  refine di_aload 0 dc_X0_12 rfl rfl ?_
  refine di_bipush (20) dc_X0_13 (by decide) ?_
  refine di_arrL 20 dc_X0_15 (by decide) (by decide) (by decide) (Nat.le_of_ble_eq_true rfl) (Nat.le_of_ble_eq_true rfl) (fun q2 => ?_)
  refine di_putE [.ref q1, .ref q2] dc_X0_17 fl_X0_15 fp_X0_15 rfl rfl (Nat.le_of_ble_eq_true rfl) rfl ?_
  exact di_ret dc_X0_20 (Nat.le_of_ble_eq_true rfl) (Nat.le_of_ble_eq_true rfl) ⟨q1, q2, rfl⟩
def cw_X7 (cy : Nat → ClassId) (h0 q1 q2 q3 q4 q5 : Nat) : va_W := (h0, .inr (7, [.ref q1, .ref q2, .int 0, .ref q3, .ref q4, .ref q5])) :: ([] ++ [(q1, .inl (cy 10, 6, .inl (fun _ => 0)))] ++ [(q2, .inl (cy 10, 6, .inl (fun _ => 0)))] ++ [(q3, .inl (cy 10, 6, .inl (fun _ => 0)))] ++ [(q4, .inl (cy 10, 10, .inl (fun _ => 0)))] ++ [(q5, .inl (cy 10, 10, .inl (fun _ => 0)))])
set_option maxRecDepth 100000 in
set_option maxHeartbeats 4000000 in
theorem ct_X7 (h0 : Nat) : di_E mt_X7_init 5 38 [.ref h0] [(h0, .inr (7, f0_X7))] (fun cy w1 => ∃ q1 q2 q3 q4 q5 : Nat, w1 = cw_X7 cy h0 q1 q2 q3 q4 q5) := by
  refine di_enter rfl rfl rfl (Nat.le_of_ble_eq_true rfl) (fun cy => ?_)
  refine di_aload 0 dc_X7_0 rfl rfl ?_
  refine di_oi dc_X7_1 ml_X7_3 (Nat.le_of_ble_eq_true rfl) (Nat.le_of_ble_eq_true rfl) ?_
  refine di_aload 0 dc_X7_4 rfl rfl ?_
  refine di_bipush (6) dc_X7_5 (by decide) ?_
  refine di_arrI 6 dc_X7_7 (by decide) (by decide) (by decide) (Nat.le_of_ble_eq_true rfl) (Nat.le_of_ble_eq_true rfl) (fun q1 => ?_)
  refine di_putE [.ref q1, .null, .int 0, .null, .null, .null] dc_X7_9 fl_X7_9 fp_X7_9 rfl rfl (Nat.le_of_ble_eq_true rfl) rfl ?_
  refine di_aload 0 dc_X7_12 rfl rfl ?_
  refine di_bipush (6) dc_X7_13 (by decide) ?_
  refine di_arrI 6 dc_X7_15 (by decide) (by decide) (by decide) (Nat.le_of_ble_eq_true rfl) (Nat.le_of_ble_eq_true rfl) (fun q2 => ?_)
  refine di_putE [.ref q1, .ref q2, .int 0, .null, .null, .null] dc_X7_17 fl_X7_15 fp_X7_15 rfl rfl (Nat.le_of_ble_eq_true rfl) rfl ?_
  refine di_aload 0 dc_X7_20 rfl rfl ?_
  refine di_bipush (6) dc_X7_21 (by decide) ?_
  refine di_arrI 6 dc_X7_23 (by decide) (by decide) (by decide) (Nat.le_of_ble_eq_true rfl) (Nat.le_of_ble_eq_true rfl) (fun q3 => ?_)
  refine di_putE [.ref q1, .ref q2, .int 0, .ref q3, .null, .null] dc_X7_25 fl_X7_18 fp_X7_18 rfl rfl (Nat.le_of_ble_eq_true rfl) rfl ?_
  refine di_aload 0 dc_X7_28 rfl rfl ?_
  refine di_bipush (10) dc_X7_29 (by decide) ?_
  refine di_arrI 10 dc_X7_31 (by decide) (by decide) (by decide) (Nat.le_of_ble_eq_true rfl) (Nat.le_of_ble_eq_true rfl) (fun q4 => ?_)
  refine di_putE [.ref q1, .ref q2, .int 0, .ref q3, .ref q4, .null] dc_X7_33 fl_X7_21 fp_X7_21 rfl rfl (Nat.le_of_ble_eq_true rfl) rfl ?_
  refine di_aload 0 dc_X7_36 rfl rfl ?_
  refine di_bipush (10) dc_X7_37 (by decide) ?_
  refine di_arrI 10 dc_X7_39 (by decide) (by decide) (by decide) (Nat.le_of_ble_eq_true rfl) (Nat.le_of_ble_eq_true rfl) (fun q5 => ?_)
  refine di_putE [.ref q1, .ref q2, .int 0, .ref q3, .ref q4, .ref q5] dc_X7_41 fl_X7_24 fp_X7_24 rfl rfl (Nat.le_of_ble_eq_true rfl) rfl ?_
  exact di_ret dc_X7_44 (Nat.le_of_ble_eq_true rfl) (Nat.le_of_ble_eq_true rfl) ⟨q1, q2, q3, q4, q5, rfl⟩
abbrev rt_F (q0 q1 q2 q3 q4 q5 : Nat) (hz : Nat) : Nat → Option Nat := fun j => some ([q0, q1, q2, q3, q4, q5].getD j hz)
set_option maxRecDepth 100000 in
set_option maxHeartbeats 4000000 in
/-- one turn of the constructor's loop -/
theorem ct_turn {cy : Nat → ClassId} {Q : va_W → Prop} {h0 qa k n j : Nat} {i : Int32} {f : Nat → Option Nat} {tl : va_W} (hi : vp_in i 6) (hj : i.toNatClampNeg = j) (hlt : ¬ 6 ≤ i) (hk : k + 6 ≤ 37) (hn : n + 44 ≤ 270)
    (kk : ∀ q q1 q2 q3 q4 q5 : Nat, di_X mt_X4_init 37 270 cy Q 15 [(1, .int (i + 1)), (0, .ref h0)] [] (k + 6) (n + 44) ((h0, .inr (4, [.ref qa])) :: (qa, .inl (cy 13, 6, .inr (.inr (.inr (.inr (va_up f j (some q))))))) :: (tl ++ cw_X7 cy q q1 q2 q3 q4 q5))) : di_X mt_X4_init 37 270 cy Q 15 [(1, .int i), (0, .ref h0)] [] k n ((h0, .inr (4, [.ref qa])) :: (qa, .inl (cy 13, 6, .inr (.inr (.inr (.inr f))))) :: tl) := by
  refine di_iload 0 dc_X4_15 rfl rfl ?_
  refine di_bipush 6 dc_X4_16 (by decide) ?_
  refine di_ige (tgt := 40) dc_X4_18 (by decide) (fun h => absurd h hlt) (fun _ => ?_)
  refine di_aload 1 dc_X4_21 rfl rfl ?_
  refine di_get (v := .ref qa) dc_X4_22 fl_X4_11 rfl ?_
  refine di_iload 0 dc_X4_25 rfl rfl ?_
  refine di_new (ci := 7) (q := (RX7, TX7, 6)) (fs := f0_X7) dc_X4_26 rfl cl_X4_9 zt_X7 zv_X7 tyX7 tyX7_ok f0_X7_ok (by omega) (by show n + 6 ≤ 270; omega) (fun q => ?_)
  refine di_dup dc_X4_29 ?_
  refine di_init (as := []) (rest := [.ref q, .int i, .ref qa]) dc_X4_30 (ct_X7 q) pw_X4_X7 rfl rfl (Or.inr (List.mem_of_getElem? (i := 1) rfl)) zx_X7 (Nat.le_of_ble_eq_true rfl) (by omega) (by show n + 6 + 38 ≤ 270; omega) (fun w1 hw1 => ?_)
  obtain ⟨q1, q2, q3, q4, q5, rfl⟩ := hw1
  refine di_ast (pos := tl.length) dc_X4_33 (v := q) (vs := [.ref q1, .ref q2, .int 0, .ref q3, .ref q4, .ref q5]) ?_ hi ?_
  · show (tl ++ cw_X7 cy q q1 q2 q3 q4 q5)[tl.length]? = _
    rw [List.getElem?_append_right (Nat.le_refl _), Nat.sub_self]
    rfl
  refine di_iinc (pos := 0) (v := i + 1) dc_X4_34 rfl rfl (by decide) rfl ?_
  refine di_goto (tgt := 15) dc_X4_37 (by decide) ?_
  rw [hj]
  exact kk q q1 q2 q3 q4 q5
def cw_X4 (cy : Nat → ClassId) (h0 hz qa A0 A1 A2 A3 A4 A5 B0 B1 B2 B3 B4 B5 C0 C1 C2 C3 C4 C5 D0 D1 D2 D3 D4 D5 E0 E1 E2 E3 E4 E5 G0 G1 G2 G3 G4 G5 : Nat) : va_W := (h0, .inr (4, [.ref qa])) :: (qa, .inl (cy 13, 6, .inr (.inr (.inr (.inr (rt_F A0 B0 C0 D0 E0 G0 hz)))))) :: ([] ++ cw_X7 cy A0 A1 A2 A3 A4 A5 ++ cw_X7 cy B0 B1 B2 B3 B4 B5 ++ cw_X7 cy C0 C1 C2 C3 C4 C5 ++ cw_X7 cy D0 D1 D2 D3 D4 D5 ++ cw_X7 cy E0 E1 E2 E3 E4 E5 ++ cw_X7 cy G0 G1 G2 G3 G4 G5)
set_option maxRecDepth 100000 in
set_option maxHeartbeats 4000000 in
theorem ct_X4 (h0 hz : Nat) : di_E mt_X4_init 37 270 [.ref h0] [(h0, .inr (4, f0_X4))] (fun cy w1 => ∃ qa A0 A1 A2 A3 A4 A5 B0 B1 B2 B3 B4 B5 C0 C1 C2 C3 C4 C5 D0 D1 D2 D3 D4 D5 E0 E1 E2 E3 E4 E5 G0 G1 G2 G3 G4 G5 : Nat, w1 = cw_X4 cy h0 hz qa A0 A1 A2 A3 A4 A5 B0 B1 B2 B3 B4 B5 C0 C1 C2 C3 C4 C5 D0 D1 D2 D3 D4 D5 E0 E1 E2 E3 E4 E5 G0 G1 G2 G3 G4 G5) := by
  refine di_enter rfl rfl rfl (Nat.le_of_ble_eq_true rfl) (fun cy => ?_)
  refine di_aload 0 dc_X4_0 rfl rfl ?_
  refine di_oi dc_X4_1 ml_X4_3 (Nat.le_of_ble_eq_true rfl) (Nat.le_of_ble_eq_true rfl) ?_
  refine di_aload 0 dc_X4_4 rfl rfl ?_
  refine di_bipush 6 dc_X4_5 (by decide) ?_
  refine di_anew (N' := 6) dc_X4_7 cl_X4_9 (by decide) (by decide) (by decide) (Nat.le_of_ble_eq_true rfl) (Nat.le_of_ble_eq_true rfl) (fun qa => ?_)
  refine di_put dc_X4_10 fl_X4_11 fp_X4_11 rfl rfl (Nat.le_of_ble_eq_true rfl) ?_
  refine di_iconst 0 dc_X4_13 (by decide) ?_
  refine di_istore (lv' := [(1, .int 0), (0, .ref h0)]) dc_X4_14 rfl (by decide) rfl ?_
  refine ct_turn (j := 0) (show ¬ _ by decide) (by decide) (by decide) (Nat.le_of_ble_eq_true rfl) (Nat.le_of_ble_eq_true rfl) (fun A0 A1 A2 A3 A4 A5 => ?_)
  refine ct_turn (j := 1) (show ¬ _ by decide) (by decide) (by decide) (Nat.le_of_ble_eq_true rfl) (Nat.le_of_ble_eq_true rfl) (fun B0 B1 B2 B3 B4 B5 => ?_)
  refine ct_turn (j := 2) (show ¬ _ by decide) (by decide) (by decide) (Nat.le_of_ble_eq_true rfl) (Nat.le_of_ble_eq_true rfl) (fun C0 C1 C2 C3 C4 C5 => ?_)
  refine ct_turn (j := 3) (show ¬ _ by decide) (by decide) (by decide) (Nat.le_of_ble_eq_true rfl) (Nat.le_of_ble_eq_true rfl) (fun D0 D1 D2 D3 D4 D5 => ?_)
  refine ct_turn (j := 4) (show ¬ _ by decide) (by decide) (by decide) (Nat.le_of_ble_eq_true rfl) (Nat.le_of_ble_eq_true rfl) (fun E0 E1 E2 E3 E4 E5 => ?_)
  refine ct_turn (j := 5) (show ¬ _ by decide) (by decide) (by decide) (Nat.le_of_ble_eq_true rfl) (Nat.le_of_ble_eq_true rfl) (fun G0 G1 G2 G3 G4 G5 => ?_)
  refine di_iload 0 dc_X4_15 rfl rfl ?_
  refine di_bipush 6 dc_X4_16 (by decide) ?_
  refine di_ige (tgt := 40) dc_X4_18 (by decide) (fun _ => ?_) (fun h => absurd (by decide) h)
  refine di_fix (g := rt_F A0 B0 C0 D0 E0 G0 hz) (fun j hj => ?_) ?_
  · rcases (show j = 0 ∨ j = 1 ∨ j = 2 ∨ j = 3 ∨ j = 4 ∨ j = 5 by omega) with rfl | rfl | rfl | rfl | rfl | rfl <;> rfl
  exact di_ret dc_X4_40 (Nat.le_of_ble_eq_true rfl) (Nat.le_of_ble_eq_true rfl) ⟨qa, A0, A1, A2, A3, A4, A5, B0, B1, B2, B3, B4, B5, C0, C1, C2, C3, C4, C5, D0, D1, D2, D3, D4, D5, E0, E1, E2, E3, E4, E5, G0, G1, G2, G3, G4, G5, rfl⟩

def cw_X6 (cy : Nat → ClassId) (h0 a1 a2 a3 a4 q1 : Nat) : va_W := (h0, .inr (6, [.ref a1, .ref a2, .int 0, .ref a3, .ref a4, .ref q1])) :: ([] ++ cw_X3 cy q1)
set_option maxRecDepth 100000 in
set_option maxHeartbeats 4000000 in
theorem ct_X6 (h0 a1 a2 a3 a4 : Nat) : di_E mt_X6_init 1 6 [.ref h0, .ref a1, .ref a2, .ref a3, .ref a4] [(h0, .inr (6, f0_X6))] (fun cy w1 => ∃ q1 : Nat, w1 = cw_X6 cy h0 a1 a2 a3 a4 q1) := by
  refine di_enter rfl rfl rfl (Nat.le_of_ble_eq_true rfl) (fun cy => ?_)
  refine di_aload 0 dc_X6_0 rfl rfl ?_
  refine di_oi dc_X6_1 ml_X6_3 (Nat.le_of_ble_eq_true rfl) (Nat.le_of_ble_eq_true rfl) ?_
  refine di_aload 0 dc_X6_4 rfl rfl ?_
  refine di_new (ci := 3) (q := (RX3, TX3, 6)) (fs := f0_X3) dc_X6_5 rfl cl_X6_9 zt_X3 zv_X3 tyX3 tyX3_ok f0_X3_ok (Nat.le_of_ble_eq_true rfl) (Nat.le_of_ble_eq_true rfl) (fun q1 => ?_)
  refine di_dup dc_X6_8 ?_
  refine di_init (as := []) (rest := [.ref q1, .ref h0]) dc_X6_9 (ct_X3 q1) pw_X6_X3 rfl rfl (Or.inr (List.mem_of_getElem? (i := 4) rfl)) zx_X3 (Nat.le_of_ble_eq_true rfl) (Nat.le_of_ble_eq_true rfl) (Nat.le_of_ble_eq_true rfl) (fun w1 hw1 => ?_)
  subst hw1
  refine di_putE [.null, .null, .int 0, .null, .null, .ref q1] dc_X6_12 fl_X6_12 fp_X6_12 rfl rfl (Nat.le_of_ble_eq_true rfl) rfl ?_
  refine di_aload 0 dc_X6_15 rfl rfl ?_
  refine di_aload 1 dc_X6_16 rfl rfl ?_
  refine di_putE [.ref a1, .null, .int 0, .null, .null, .ref q1] dc_X6_17 fl_X6_18 fp_X6_18 rfl rfl (Nat.le_of_ble_eq_true rfl) rfl ?_
  refine di_aload 0 dc_X6_20 rfl rfl ?_
  refine di_aload 2 dc_X6_21 rfl rfl ?_
  refine di_putE [.ref a1, .ref a2, .int 0, .null, .null, .ref q1] dc_X6_22 fl_X6_22 fp_X6_22 rfl rfl (Nat.le_of_ble_eq_true rfl) rfl ?_
  refine di_aload 0 dc_X6_25 rfl rfl ?_
  refine di_aload 3 dc_X6_26 rfl rfl ?_
  refine di_putE [.ref a1, .ref a2, .int 0, .ref a3, .null, .ref q1] dc_X6_27 fl_X6_26 fp_X6_26 rfl rfl (Nat.le_of_ble_eq_true rfl) rfl ?_
  refine di_aload 0 dc_X6_30 rfl rfl ?_
  refine di_aloadW 4 dc_X6_31 rfl ?_
  refine di_putE [.ref a1, .ref a2, .int 0, .ref a3, .ref a4, .ref q1] dc_X6_33 fl_X6_30 fp_X6_30 rfl rfl (Nat.le_of_ble_eq_true rfl) rfl ?_
  exact di_ret dc_X6_36 (Nat.le_of_ble_eq_true rfl) (Nat.le_of_ble_eq_true rfl) ⟨q1, rfl⟩
def cw_X5 (cy : Nat → ClassId) (h0 a1 a2 q1 q2 q3 q4 q5 : Nat) : va_W := (h0, .inr (5, [.ref a1, .ref a2, .int 0, .int 0, .ref q1, .ref q2, .int 0, .int 0, .ref q3, .int 0, .int 0, .ref q4, .ref q5])) :: ([] ++ [(q1, .inl (cy 10, 10, .inl (fun _ => 0)))] ++ cw_X3 cy q2 ++ [(q3, .inl (cy 10, 5, .inl (fun _ => 0)))] ++ [(q4, .inl (cy 10, 10, .inl (fun _ => 0)))] ++ cw_X3 cy q5)
set_option maxRecDepth 100000 in
set_option maxHeartbeats 4000000 in
theorem ct_X5 (h0 a1 a2 : Nat) : di_E mt_X5_init 5 37 [.ref h0, .ref a1, .ref a2] [(h0, .inr (5, f0_X5))] (fun cy w1 => ∃ q1 q2 q3 q4 q5 : Nat, w1 = cw_X5 cy h0 a1 a2 q1 q2 q3 q4 q5) := by
  refine di_enter rfl rfl rfl (Nat.le_of_ble_eq_true rfl) (fun cy => ?_)
  refine di_aload 0 dc_X5_0 rfl rfl ?_
  refine di_oi dc_X5_1 ml_X5_3 (Nat.le_of_ble_eq_true rfl) (Nat.le_of_ble_eq_true rfl) ?_
  refine di_aload 0 dc_X5_4 rfl rfl ?_
  refine di_bipush (10) dc_X5_5 (by decide) ?_
  refine di_arrI 10 dc_X5_7 (by decide) (by decide) (by decide) (Nat.le_of_ble_eq_true rfl) (Nat.le_of_ble_eq_true rfl) (fun q1 => ?_)
  refine di_putE [.null, .null, .int 0, .int 0, .ref q1, .null, .int 0, .int 0, .null, .int 0, .int 0, .null, .null] dc_X5_9 fl_X5_9 fp_X5_9 rfl rfl (Nat.le_of_ble_eq_true rfl) rfl ?_
  refine di_aload 0 dc_X5_12 rfl rfl ?_
  refine di_new (ci := 3) (q := (RX3, TX3, 6)) (fs := f0_X3) dc_X5_13 rfl cl_X5_15 zt_X3 zv_X3 tyX3 tyX3_ok f0_X3_ok (Nat.le_of_ble_eq_true rfl) (Nat.le_of_ble_eq_true rfl) (fun q2 => ?_)
  refine di_dup dc_X5_16 ?_
  refine di_init (as := []) (rest := [.ref q2, .ref h0]) dc_X5_17 (ct_X3 q2) pw_X5_X3 rfl rfl (Or.inr (List.mem_of_getElem? (i := 5) rfl)) zx_X3 (Nat.le_of_ble_eq_true rfl) (Nat.le_of_ble_eq_true rfl) (Nat.le_of_ble_eq_true rfl) (fun w1 hw1 => ?_)
  subst hw1
  refine di_putE [.null, .null, .int 0, .int 0, .ref q1, .ref q2, .int 0, .int 0, .null, .int 0, .int 0, .null, .null] dc_X5_20 fl_X5_18 fp_X5_18 rfl rfl (Nat.le_of_ble_eq_true rfl) rfl ?_
  refine di_aload 0 dc_X5_23 rfl rfl ?_
  refine di_iconst (5) dc_X5_24 (by decide) ?_
  refine di_arrI 5 dc_X5_25 (by decide) (by decide) (by decide) (Nat.le_of_ble_eq_true rfl) (Nat.le_of_ble_eq_true rfl) (fun q3 => ?_)
  refine di_putE [.null, .null, .int 0, .int 0, .ref q1, .ref q2, .int 0, .int 0, .ref q3, .int 0, .int 0, .null, .null] dc_X5_27 fl_X5_22 fp_X5_22 rfl rfl (Nat.le_of_ble_eq_true rfl) rfl ?_
  refine di_aload 0 dc_X5_30 rfl rfl ?_
  refine di_bipush (10) dc_X5_31 (by decide) ?_
  refine di_arrI 10 dc_X5_33 (by decide) (by decide) (by decide) (Nat.le_of_ble_eq_true rfl) (Nat.le_of_ble_eq_true rfl) (fun q4 => ?_)
  refine di_putE [.null, .null, .int 0, .int 0, .ref q1, .ref q2, .int 0, .int 0, .ref q3, .int 0, .int 0, .ref q4, .null] dc_X5_35 fl_X5_25 fp_X5_25 rfl rfl (Nat.le_of_ble_eq_true rfl) rfl ?_
  refine di_aload 0 dc_X5_38 rfl rfl ?_
  refine di_new (ci := 3) (q := (RX3, TX3, 6)) (fs := f0_X3) dc_X5_39 rfl cl_X5_15 zt_X3 zv_X3 tyX3 tyX3_ok f0_X3_ok (Nat.le_of_ble_eq_true rfl) (Nat.le_of_ble_eq_true rfl) (fun q5 => ?_)
  refine di_dup dc_X5_42 ?_
  refine di_init (as := []) (rest := [.ref q5, .ref h0]) dc_X5_43 (ct_X3 q5) pw_X5_X3 rfl rfl (Or.inr (List.mem_of_getElem? (i := 5) rfl)) zx_X3 (Nat.le_of_ble_eq_true rfl) (Nat.le_of_ble_eq_true rfl) (Nat.le_of_ble_eq_true rfl) (fun w1 hw1 => ?_)
  subst hw1
  refine di_putE [.null, .null, .int 0, .int 0, .ref q1, .ref q2, .int 0, .int 0, .ref q3, .int 0, .int 0, .ref q4, .ref q5] dc_X5_46 fl_X5_28 fp_X5_28 rfl rfl (Nat.le_of_ble_eq_true rfl) rfl ?_
  refine di_aload 0 dc_X5_49 rfl rfl ?_
  refine di_aload 1 dc_X5_50 rfl rfl ?_
  refine di_putE [.ref a1, .null, .int 0, .int 0, .ref q1, .ref q2, .int 0, .int 0, .ref q3, .int 0, .int 0, .ref q4, .ref q5] dc_X5_51 fl_X5_31 fp_X5_31 rfl rfl (Nat.le_of_ble_eq_true rfl) rfl ?_
  refine di_aload 0 dc_X5_54 rfl rfl ?_
  refine di_aload 2 dc_X5_55 rfl rfl ?_
  refine di_putE [.ref a1, .ref a2, .int 0, .int 0, .ref q1, .ref q2, .int 0, .int 0, .ref q3, .int 0, .int 0, .ref q4, .ref q5] dc_X5_56 fl_X5_35 fp_X5_35 rfl rfl (Nat.le_of_ble_eq_true rfl) rfl ?_
  exact di_ret dc_X5_59 (Nat.le_of_ble_eq_true rfl) (Nat.le_of_ble_eq_true rfl) ⟨q1, q2, q3, q4, q5, rfl⟩
def cw_X2 (cy : Nat → ClassId) (h0 a1 a2 q1 q2 q3 : Nat) : va_W := (h0, .inr (2, [.ref a1, .ref a2, .ref q1, .ref q2, .ref q3])) :: ([] ++ [(q1, .inl (cy 10, 10, .inl (fun _ => 0)))] ++ [(q2, .inl (cy 10, 756, .inl (fun _ => 0)))] ++ [(q3, .inl (cy 10, 21, .inl (fun _ => 0)))])
set_option maxRecDepth 100000 in
set_option maxHeartbeats 4000000 in
theorem ct_X2 (h0 a1 a2 : Nat) : di_E mt_X2_init 3 787 [.ref h0, .ref a1, .ref a2] [(h0, .inr (2, f0_X2))] (fun cy w1 => ∃ q1 q2 q3 : Nat, w1 = cw_X2 cy h0 a1 a2 q1 q2 q3) := by
  refine di_enter rfl rfl rfl (Nat.le_of_ble_eq_true rfl) (fun cy => ?_)
  refine di_aload 0 dc_X2_0 rfl rfl ?_
  refine di_oi dc_X2_1 ml_X2_3 (Nat.le_of_ble_eq_true rfl) (Nat.le_of_ble_eq_true rfl) ?_
  refine di_aload 0 dc_X2_4 rfl rfl ?_
  refine di_bipush (10) dc_X2_5 (by decide) ?_
  refine di_arrI 10 dc_X2_7 (by decide) (by decide) (by decide) (Nat.le_of_ble_eq_true rfl) (Nat.le_of_ble_eq_true rfl) (fun q1 => ?_)
  refine di_putE [.null, .null, .ref q1, .null, .null] dc_X2_9 fl_X2_9 fp_X2_9 rfl rfl (Nat.le_of_ble_eq_true rfl) rfl ?_
  refine di_aload 0 dc_X2_12 rfl rfl ?_
  refine di_sipush (756) dc_X2_13 (by decide) ?_
  refine di_arrI 756 dc_X2_16 (by decide) (by decide) (by decide) (Nat.le_of_ble_eq_true rfl) (Nat.le_of_ble_eq_true rfl) (fun q2 => ?_)
  refine di_putE [.null, .null, .ref q1, .ref q2, .null] dc_X2_18 fl_X2_15 fp_X2_15 rfl rfl (Nat.le_of_ble_eq_true rfl) rfl ?_
  refine di_aload 0 dc_X2_21 rfl rfl ?_
  refine di_bipush (21) dc_X2_22 (by decide) ?_
  refine di_arrI 21 dc_X2_24 (by decide) (by decide) (by decide) (Nat.le_of_ble_eq_true rfl) (Nat.le_of_ble_eq_true rfl) (fun q3 => ?_)
  refine di_putE [.null, .null, .ref q1, .ref q2, .ref q3] dc_X2_26 fl_X2_18 fp_X2_18 rfl rfl (Nat.le_of_ble_eq_true rfl) rfl ?_
  refine di_aload 0 dc_X2_29 rfl rfl ?_
  refine di_aload 1 dc_X2_30 rfl rfl ?_
  refine di_putE [.ref a1, .null, .ref q1, .ref q2, .ref q3] dc_X2_31 fl_X2_21 fp_X2_21 rfl rfl (Nat.le_of_ble_eq_true rfl) rfl ?_
  refine di_aload 0 dc_X2_34 rfl rfl ?_
  refine di_aload 2 dc_X2_35 rfl rfl ?_
  refine di_putE [.ref a1, .ref a2, .ref q1, .ref q2, .ref q3] dc_X2_36 fl_X2_25 fp_X2_25 rfl rfl (Nat.le_of_ble_eq_true rfl) rfl ?_
  exact di_ret dc_X2_39 (Nat.le_of_ble_eq_true rfl) (Nat.le_of_ble_eq_true rfl) ⟨q1, q2, q3, rfl⟩
def cw_X9 (cy : Nat → ClassId) (h0 q1 q2 q3 q4 q5 q6 q7 q8 q9 q10 q11 q12 q13 q14 q15 q16 q17 q18 : Nat) : va_W := (h0, .inr (9, [.int (4), .ref q1, .ref q2, .ref q3, .ref q4, .ref q5, .ref q6, .int 0, .ref q7, .int 0, .int 0, .ref q8, .ref q9, .int (-6), .ref q10, .ref q11, .long 0, .ref q12, .ref q13, .long 0, .long 0, .int 0, .long 0, .long 0, .int 0, .int 0, .ref q14, .ref q15, .long 0, .long 0, .ref q16, .ref q17, .ref q18])) :: ([] ++ [(q1, .inl (cy 10, 10, .inl (fun _ => 0)))] ++ [(q2, .inl (cy 10, 10, .inl (fun _ => 0)))] ++ [(q3, .inl (cy 10, 10, .inl (fun _ => 0)))] ++ [(q4, .inl (cy 10, 10, .inl (fun _ => 0)))] ++ [(q5, .inl (cy 12, 10, .inl (fun _ => 0)))] ++ [(q6, .inl (cy 12, 10, .inl (fun _ => 0)))] ++ [(q7, .inl (cy 10, 108, .inl (fun _ => 0)))] ++ [(q8, .inl (cy 10, 10, .inl (fun _ => 0)))] ++ [(q9, .inl (cy 10, 6, .inl (fun _ => 0)))] ++ [(q10, .inl (cy 11, 6, .inr (.inl (fun _ => 0))))] ++ [(q11, .inl (cy 11, 20, .inr (.inl (fun _ => 0))))] ++ [(q12, .inl (cy 11, 20, .inr (.inl (fun _ => 0))))] ++ [(q13, .inl (cy 11, 20, .inr (.inl (fun _ => 0))))] ++ [(q14, .inl (cy 10, 10, .inl (fun _ => 0)))] ++ [(q15, .inl (cy 10, 5, .inl (fun _ => 0)))] ++ [(q16, .inl (cy 10, 6, .inl (fun _ => 0)))] ++ [(q17, .inl (cy 10, 21, .inl (fun _ => 0)))] ++ [(q18, .inl (cy 10, 36, .inl (fun _ => 0)))])
set_option maxRecDepth 100000 in
set_option maxHeartbeats 4000000 in
theorem ct_X9 (h0 : Nat) : di_E mt_X9_init 18 328 [.ref h0] [(h0, .inr (9, f0_X9))] (fun cy w1 => ∃ q1 q2 q3 q4 q5 q6 q7 q8 q9 q10 q11 q12 q13 q14 q15 q16 q17 q18 : Nat, w1 = cw_X9 cy h0 q1 q2 q3 q4 q5 q6 q7 q8 q9 q10 q11 q12 q13 q14 q15 q16 q17 q18) := by
  refine di_enter rfl rfl rfl (Nat.le_of_ble_eq_true rfl) (fun cy => ?_)
  refine di_aload 0 dc_X9_0 rfl rfl ?_
  refine di_oi dc_X9_1 ml_X9_1 (Nat.le_of_ble_eq_true rfl) (Nat.le_of_ble_eq_true rfl) ?_
  refine di_aload 0 dc_X9_4 rfl rfl ?_
  refine di_iconst (4) dc_X9_5 (by decide) ?_
  refine di_putE [.int (4), .null, .null, .null, .null, .null, .null, .int 0, .null, .int 0, .int 0, .null, .null, .int 0, .null, .null, .long 0, .null, .null, .long 0, .long 0, .int 0, .long 0, .long 0, .int 0, .int 0, .null, .null, .long 0, .long 0, .null, .null, .null] dc_X9_6 fl_X9_7 fp_X9_7 rfl rfl (Nat.le_of_ble_eq_true rfl) rfl ?_
  refine di_aload 0 dc_X9_9 rfl rfl ?_
  refine di_bipush (10) dc_X9_10 (by decide) ?_
  refine di_arrI 10 dc_X9_12 (by decide) (by decide) (by decide) (Nat.le_of_ble_eq_true rfl) (Nat.le_of_ble_eq_true rfl) (fun q1 => ?_)
  refine di_putE [.int (4), .ref q1, .null, .null, .null, .null, .null, .int 0, .null, .int 0, .int 0, .null, .null, .int 0, .null, .null, .long 0, .null, .null, .long 0, .long 0, .int 0, .long 0, .long 0, .int 0, .int 0, .null, .null, .long 0, .long 0, .null, .null, .null] dc_X9_14 fl_X9_13 fp_X9_13 rfl rfl (Nat.le_of_ble_eq_true rfl) rfl ?_
  refine di_aload 0 dc_X9_17 rfl rfl ?_
  refine di_bipush (10) dc_X9_18 (by decide) ?_
  refine di_arrI 10 dc_X9_20 (by decide) (by decide) (by decide) (Nat.le_of_ble_eq_true rfl) (Nat.le_of_ble_eq_true rfl) (fun q2 => ?_)
  refine di_putE [.int (4), .ref q1, .ref q2, .null, .null, .null, .null, .int 0, .null, .int 0, .int 0, .null, .null, .int 0, .null, .null, .long 0, .null, .null, .long 0, .long 0, .int 0, .long 0, .long 0, .int 0, .int 0, .null, .null, .long 0, .long 0, .null, .null, .null] dc_X9_22 fl_X9_17 fp_X9_17 rfl rfl (Nat.le_of_ble_eq_true rfl) rfl ?_
  refine di_aload 0 dc_X9_25 rfl rfl ?_
  refine di_bipush (10) dc_X9_26 (by decide) ?_
  refine di_arrI 10 dc_X9_28 (by decide) (by decide) (by decide) (Nat.le_of_ble_eq_true rfl) (Nat.le_of_ble_eq_true rfl) (fun q3 => ?_)
  refine di_putE [.int (4), .ref q1, .ref q2, .ref q3, .null, .null, .null, .int 0, .null, .int 0, .int 0, .null, .null, .int 0, .null, .null, .long 0, .null, .null, .long 0, .long 0, .int 0, .long 0, .long 0, .int 0, .int 0, .null, .null, .long 0, .long 0, .null, .null, .null] dc_X9_30 fl_X9_20 fp_X9_20 rfl rfl (Nat.le_of_ble_eq_true rfl) rfl ?_
  refine di_aload 0 dc_X9_33 rfl rfl ?_
  refine di_bipush (10) dc_X9_34 (by decide) ?_
  refine di_arrI 10 dc_X9_36 (by decide) (by decide) (by decide) (Nat.le_of_ble_eq_true rfl) (Nat.le_of_ble_eq_true rfl) (fun q4 => ?_)
  refine di_putE [.int (4), .ref q1, .ref q2, .ref q3, .ref q4, .null, .null, .int 0, .null, .int 0, .int 0, .null, .null, .int 0, .null, .null, .long 0, .null, .null, .long 0, .long 0, .int 0, .long 0, .long 0, .int 0, .int 0, .null, .null, .long 0, .long 0, .null, .null, .null] dc_X9_38 fl_X9_23 fp_X9_23 rfl rfl (Nat.le_of_ble_eq_true rfl) rfl ?_
  refine di_aload 0 dc_X9_41 rfl rfl ?_
  refine di_bipush (10) dc_X9_42 (by decide) ?_
  refine di_arrZ 10 dc_X9_44 (by decide) (by decide) (by decide) (Nat.le_of_ble_eq_true rfl) (Nat.le_of_ble_eq_true rfl) (fun q5 => ?_)
  refine di_putE [.int (4), .ref q1, .ref q2, .ref q3, .ref q4, .ref q5, .null, .int 0, .null, .int 0, .int 0, .null, .null, .int 0, .null, .null, .long 0, .null, .null, .long 0, .long 0, .int 0, .long 0, .long 0, .int 0, .int 0, .null, .null, .long 0, .long 0, .null, .null, .null] dc_X9_46 fl_X9_26 fp_X9_26 rfl rfl (Nat.le_of_ble_eq_true rfl) rfl ?_
  refine di_aload 0 dc_X9_49 rfl rfl ?_
  refine di_bipush (10) dc_X9_50 (by decide) ?_
  refine di_arrZ 10 dc_X9_52 (by decide) (by decide) (by decide) (Nat.le_of_ble_eq_true rfl) (Nat.le_of_ble_eq_true rfl) (fun q6 => ?_)
  refine di_putE [.int (4), .ref q1, .ref q2, .ref q3, .ref q4, .ref q5, .ref q6, .int 0, .null, .int 0, .int 0, .null, .null, .int 0, .null, .null, .long 0, .null, .null, .long 0, .long 0, .int 0, .long 0, .long 0, .int 0, .int 0, .null, .null, .long 0, .long 0, .null, .null, .null] dc_X9_54 fl_X9_30 fp_X9_30 rfl rfl (Nat.le_of_ble_eq_true rfl) rfl ?_
  refine di_aload 0 dc_X9_57 rfl rfl ?_
  refine di_bipush (108) dc_X9_58 (by decide) ?_
  refine di_arrI 108 dc_X9_60 (by decide) (by decide) (by decide) (Nat.le_of_ble_eq_true rfl) (Nat.le_of_ble_eq_true rfl) (fun q7 => ?_)
  refine di_putE [.int (4), .ref q1, .ref q2, .ref q3, .ref q4, .ref q5, .ref q6, .int 0, .ref q7, .int 0, .int 0, .null, .null, .int 0, .null, .null, .long 0, .null, .null, .long 0, .long 0, .int 0, .long 0, .long 0, .int 0, .int 0, .null, .null, .long 0, .long 0, .null, .null, .null] dc_X9_62 fl_X9_33 fp_X9_33 rfl rfl (Nat.le_of_ble_eq_true rfl) rfl ?_
  refine di_aload 0 dc_X9_65 rfl rfl ?_
  refine di_bipush (10) dc_X9_66 (by decide) ?_
  refine di_arrI 10 dc_X9_68 (by decide) (by decide) (by decide) (Nat.le_of_ble_eq_true rfl) (Nat.le_of_ble_eq_true rfl) (fun q8 => ?_)
  refine di_putE [.int (4), .ref q1, .ref q2, .ref q3, .ref q4, .ref q5, .ref q6, .int 0, .ref q7, .int 0, .int 0, .ref q8, .null, .int 0, .null, .null, .long 0, .null, .null, .long 0, .long 0, .int 0, .long 0, .long 0, .int 0, .int 0, .null, .null, .long 0, .long 0, .null, .null, .null] dc_X9_70 fl_X9_36 fp_X9_36 rfl rfl (Nat.le_of_ble_eq_true rfl) rfl ?_
  refine di_aload 0 dc_X9_73 rfl rfl ?_
  refine di_bipush (6) dc_X9_74 (by decide) ?_
  refine di_arrI 6 dc_X9_76 (by decide) (by decide) (by decide) (Nat.le_of_ble_eq_true rfl) (Nat.le_of_ble_eq_true rfl) (fun q9 => ?_)
  refine di_putE [.int (4), .ref q1, .ref q2, .ref q3, .ref q4, .ref q5, .ref q6, .int 0, .ref q7, .int 0, .int 0, .ref q8, .ref q9, .int 0, .null, .null, .long 0, .null, .null, .long 0, .long 0, .int 0, .long 0, .long 0, .int 0, .int 0, .null, .null, .long 0, .long 0, .null, .null, .null] dc_X9_78 fl_X9_39 fp_X9_39 rfl rfl (Nat.le_of_ble_eq_true rfl) rfl ?_
  refine di_aload 0 dc_X9_81 rfl rfl ?_
  refine di_bipush (-6) dc_X9_82 (by decide) ?_
  refine di_putE [.int (4), .ref q1, .ref q2, .ref q3, .ref q4, .ref q5, .ref q6, .int 0, .ref q7, .int 0, .int 0, .ref q8, .ref q9, .int (-6), .null, .null, .long 0, .null, .null, .long 0, .long 0, .int 0, .long 0, .long 0, .int 0, .int 0, .null, .null, .long 0, .long 0, .null, .null, .null] dc_X9_84 fl_X9_42 fp_X9_42 rfl rfl (Nat.le_of_ble_eq_true rfl) rfl ?_
  refine di_aload 0 dc_X9_87 rfl rfl ?_
  refine di_bipush (6) dc_X9_88 (by decide) ?_
  refine di_arrL 6 dc_X9_90 (by decide) (by decide) (by decide) (Nat.le_of_ble_eq_true rfl) (Nat.le_of_ble_eq_true rfl) (fun q10 => ?_)
  refine di_putE [.int (4), .ref q1, .ref q2, .ref q3, .ref q4, .ref q5, .ref q6, .int 0, .ref q7, .int 0, .int 0, .ref q8, .ref q9, .int (-6), .ref q10, .null, .long 0, .null, .null, .long 0, .long 0, .int 0, .long 0, .long 0, .int 0, .int 0, .null, .null, .long 0, .long 0, .null, .null, .null] dc_X9_92 fl_X9_45 fp_X9_45 rfl rfl (Nat.le_of_ble_eq_true rfl) rfl ?_
  refine di_aload 0 dc_X9_95 rfl rfl ?_
  refine di_bipush (20) dc_X9_96 (by decide) ?_
  refine di_arrL 20 dc_X9_98 (by decide) (by decide) (by decide) (Nat.le_of_ble_eq_true rfl) (Nat.le_of_ble_eq_true rfl) (fun q11 => ?_)
  refine di_putE [.int (4), .ref q1, .ref q2, .ref q3, .ref q4, .ref q5, .ref q6, .int 0, .ref q7, .int 0, .int 0, .ref q8, .ref q9, .int (-6), .ref q10, .ref q11, .long 0, .null, .null, .long 0, .long 0, .int 0, .long 0, .long 0, .int 0, .int 0, .null, .null, .long 0, .long 0, .null, .null, .null] dc_X9_100 fl_X9_49 fp_X9_49 rfl rfl (Nat.le_of_ble_eq_true rfl) rfl ?_
  refine di_aload 0 dc_X9_103 rfl rfl ?_
  refine di_bipush (20) dc_X9_104 (by decide) ?_
  refine di_arrL 20 dc_X9_106 (by decide) (by decide) (by decide) (Nat.le_of_ble_eq_true rfl) (Nat.le_of_ble_eq_true rfl) (fun q12 => ?_)
  refine di_putE [.int (4), .ref q1, .ref q2, .ref q3, .ref q4, .ref q5, .ref q6, .int 0, .ref q7, .int 0, .int 0, .ref q8, .ref q9, .int (-6), .ref q10, .ref q11, .long 0, .ref q12, .null, .long 0, .long 0, .int 0, .long 0, .long 0, .int 0, .int 0, .null, .null, .long 0, .long 0, .null, .null, .null] dc_X9_108 fl_X9_52 fp_X9_52 rfl rfl (Nat.le_of_ble_eq_true rfl) rfl ?_
  refine di_aload 0 dc_X9_111 rfl rfl ?_
  refine di_bipush (20) dc_X9_112 (by decide) ?_
  refine di_arrL 20 dc_X9_114 (by decide) (by decide) (by decide) (Nat.le_of_ble_eq_true rfl) (Nat.le_of_ble_eq_true rfl) (fun q13 => ?_)
  refine di_putE [.int (4), .ref q1, .ref q2, .ref q3, .ref q4, .ref q5, .ref q6, .int 0, .ref q7, .int 0, .int 0, .ref q8, .ref q9, .int (-6), .ref q10, .ref q11, .long 0, .ref q12, .ref q13, .long 0, .long 0, .int 0, .long 0, .long 0, .int 0, .int 0, .null, .null, .long 0, .long 0, .null, .null, .null] dc_X9_116 fl_X9_55 fp_X9_55 rfl rfl (Nat.le_of_ble_eq_true rfl) rfl ?_
  refine di_aload 0 dc_X9_119 rfl rfl ?_
  refine di_bipush (10) dc_X9_120 (by decide) ?_
  refine di_arrI 10 dc_X9_122 (by decide) (by decide) (by decide) (Nat.le_of_ble_eq_true rfl) (Nat.le_of_ble_eq_true rfl) (fun q14 => ?_)
  refine di_putE [.int (4), .ref q1, .ref q2, .ref q3, .ref q4, .ref q5, .ref q6, .int 0, .ref q7, .int 0, .int 0, .ref q8, .ref q9, .int (-6), .ref q10, .ref q11, .long 0, .ref q12, .ref q13, .long 0, .long 0, .int 0, .long 0, .long 0, .int 0, .int 0, .ref q14, .null, .long 0, .long 0, .null, .null, .null] dc_X9_124 fl_X9_58 fp_X9_58 rfl rfl (Nat.le_of_ble_eq_true rfl) rfl ?_
  refine di_aload 0 dc_X9_127 rfl rfl ?_
  refine di_iconst (5) dc_X9_128 (by decide) ?_
  refine di_arrI 5 dc_X9_129 (by decide) (by decide) (by decide) (Nat.le_of_ble_eq_true rfl) (Nat.le_of_ble_eq_true rfl) (fun q15 => ?_)
  refine di_putE [.int (4), .ref q1, .ref q2, .ref q3, .ref q4, .ref q5, .ref q6, .int 0, .ref q7, .int 0, .int 0, .ref q8, .ref q9, .int (-6), .ref q10, .ref q11, .long 0, .ref q12, .ref q13, .long 0, .long 0, .int 0, .long 0, .long 0, .int 0, .int 0, .ref q14, .ref q15, .long 0, .long 0, .null, .null, .null] dc_X9_131 fl_X9_61 fp_X9_61 rfl rfl (Nat.le_of_ble_eq_true rfl) rfl ?_
  refine di_aload 0 dc_X9_134 rfl rfl ?_
  refine di_bipush (6) dc_X9_135 (by decide) ?_
  refine di_arrI 6 dc_X9_137 (by decide) (by decide) (by decide) (Nat.le_of_ble_eq_true rfl) (Nat.le_of_ble_eq_true rfl) (fun q16 => ?_)
  refine di_putE [.int (4), .ref q1, .ref q2, .ref q3, .ref q4, .ref q5, .ref q6, .int 0, .ref q7, .int 0, .int 0, .ref q8, .ref q9, .int (-6), .ref q10, .ref q11, .long 0, .ref q12, .ref q13, .long 0, .long 0, .int 0, .long 0, .long 0, .int 0, .int 0, .ref q14, .ref q15, .long 0, .long 0, .ref q16, .null, .null] dc_X9_139 fl_X9_64 fp_X9_64 rfl rfl (Nat.le_of_ble_eq_true rfl) rfl ?_
  refine di_aload 0 dc_X9_142 rfl rfl ?_
  refine di_bipush (21) dc_X9_143 (by decide) ?_
  refine di_arrI 21 dc_X9_145 (by decide) (by decide) (by decide) (Nat.le_of_ble_eq_true rfl) (Nat.le_of_ble_eq_true rfl) (fun q17 => ?_)
  refine di_putE [.int (4), .ref q1, .ref q2, .ref q3, .ref q4, .ref q5, .ref q6, .int 0, .ref q7, .int 0, .int 0, .ref q8, .ref q9, .int (-6), .ref q10, .ref q11, .long 0, .ref q12, .ref q13, .long 0, .long 0, .int 0, .long 0, .long 0, .int 0, .int 0, .ref q14, .ref q15, .long 0, .long 0, .ref q16, .ref q17, .null] dc_X9_147 fl_X9_67 fp_X9_67 rfl rfl (Nat.le_of_ble_eq_true rfl) rfl ?_
  refine di_aload 0 dc_X9_150 rfl rfl ?_
  refine di_bipush (36) dc_X9_151 (by decide) ?_
  refine di_arrI 36 dc_X9_153 (by decide) (by decide) (by decide) (Nat.le_of_ble_eq_true rfl) (Nat.le_of_ble_eq_true rfl) (fun q18 => ?_)
  refine di_putE [.int (4), .ref q1, .ref q2, .ref q3, .ref q4, .ref q5, .ref q6, .int 0, .ref q7, .int 0, .int 0, .ref q8, .ref q9, .int (-6), .ref q10, .ref q11, .long 0, .ref q12, .ref q13, .long 0, .long 0, .int 0, .long 0, .long 0, .int 0, .int 0, .ref q14, .ref q15, .long 0, .long 0, .ref q16, .ref q17, .ref q18] dc_X9_155 fl_X9_70 fp_X9_70 rfl rfl (Nat.le_of_ble_eq_true rfl) rfl ?_
  exact di_ret dc_X9_158 (Nat.le_of_ble_eq_true rfl) (Nat.le_of_ble_eq_true rfl) ⟨q1, q2, q3, q4, q5, q6, q7, q8, q9, q10, q11, q12, q13, q14, q15, q16, q17, q18, rfl⟩
def cw_X8 (cy : Nat → ClassId) (h0 q1 q2 q3 q4 q5 q6 q7 q8 q9 q10 q11 q12 q13 q14 q15 q16 q17 q18 q19 q20 q21 q22 q23 q24 q25 q26 q27 q28 q29 q30 q31 q32 q33 q34 q35 q36 q37 q38 q39 q40 q41 q42 q43 q44 q45 q46 q47 q48 q49 q50 q51 q52 q53 q54 q55 q56 q57 q58 q59 q60 q61 q62 q63 q64 : Nat) : va_W := (h0, .inr (8, [.ref q1, .ref q6, .ref q10, .ref q48, .ref q51, .ref q52, .ref q54, .ref q60, .ref q64])) :: ([] ++ cw_X1 cy q1 q2 q3 q4 q5 ++ [(q6, .inl (cy 14, 3, .inr (.inr (.inr (.inr (fun j => some ([q7, q8, q9].getD j h0))))))), (q7, .inl (cy 10, 36, .inl (fun _ => 0))), (q8, .inl (cy 10, 36, .inl (fun _ => 0))), (q9, .inl (cy 10, 36, .inl (fun _ => 0)))] ++ cw_X4 cy q10 h0 q11 q12 q13 q14 q15 q16 q17 q18 q19 q20 q21 q22 q23 q24 q25 q26 q27 q28 q29 q30 q31 q32 q33 q34 q35 q36 q37 q38 q39 q40 q41 q42 q43 q44 q45 q46 q47 ++ cw_X0 cy q48 q49 q50 ++ cw_X3 cy q51 ++ cw_X6 cy q52 q1 q6 q10 q48 q53 ++ cw_X5 cy q54 q1 q52 q55 q56 q57 q58 q59 ++ cw_X2 cy q60 q1 q10 q61 q62 q63 ++ [(q64, .inl (cy 10, 36, .inl (fun _ => 0)))])
set_option maxRecDepth 100000 in
set_option maxHeartbeats 4000000 in
theorem ct_X8 (h0 : Nat) : di_E mt_X8_init 64 1354 [.ref h0] [(h0, .inr (8, f0_X8))] (fun cy w1 => ∃ q1 q2 q3 q4 q5 q6 q7 q8 q9 q10 q11 q12 q13 q14 q15 q16 q17 q18 q19 q20 q21 q22 q23 q24 q25 q26 q27 q28 q29 q30 q31 q32 q33 q34 q35 q36 q37 q38 q39 q40 q41 q42 q43 q44 q45 q46 q47 q48 q49 q50 q51 q52 q53 q54 q55 q56 q57 q58 q59 q60 q61 q62 q63 q64 : Nat, w1 = cw_X8 cy h0 q1 q2 q3 q4 q5 q6 q7 q8 q9 q10 q11 q12 q13 q14 q15 q16 q17 q18 q19 q20 q21 q22 q23 q24 q25 q26 q27 q28 q29 q30 q31 q32 q33 q34 q35 q36 q37 q38 q39 q40 q41 q42 q43 q44 q45 q46 q47 q48 q49 q50 q51 q52 q53 q54 q55 q56 q57 q58 q59 q60 q61 q62 q63 q64) := by
  refine di_enter rfl rfl rfl (Nat.le_of_ble_eq_true rfl) (fun cy => ?_)
  refine di_aload 0 dc_X8_0 rfl rfl ?_
  refine di_oi dc_X8_1 ml_X8_3 (Nat.le_of_ble_eq_true rfl) (Nat.le_of_ble_eq_true rfl) ?_
  refine di_aload 0 dc_X8_4 rfl rfl ?_
  refine di_new (ci := 1) (q := (RX1, TX1, 8)) (fs := f0_X1) dc_X8_5 rfl cl_X8_9 zt_X1 zv_X1 tyX1 tyX1_ok f0_X1_ok (Nat.le_of_ble_eq_true rfl) (Nat.le_of_ble_eq_true rfl) (fun q1 => ?_)
  refine di_dup dc_X8_8 ?_
  refine di_init (as := []) (rest := [.ref q1, .ref h0]) dc_X8_9 (ct_X1 q1) pw_X8_X1 rfl rfl (Or.inr (List.mem_of_getElem? (i := 0) rfl)) zx_X1 (Nat.le_of_ble_eq_true rfl) (Nat.le_of_ble_eq_true rfl) (Nat.le_of_ble_eq_true rfl) (fun w1 hw1 => ?_)
  obtain ⟨q2, q3, q4, q5, rfl⟩ := hw1
  refine di_putE [.ref q1, .null, .null, .null, .null, .null, .null, .null, .null] dc_X8_12 fl_X8_12 fp_X8_12 rfl rfl (Nat.le_of_ble_eq_true rfl) rfl ?_
  refine di_aload 0 dc_X8_15 rfl rfl ?_
  refine di_iconst (3) dc_X8_16 (by decide) ?_
  refine di_bipush (36) dc_X8_17 (by decide) ?_
  refine di_mna h0 dc_X8_19 cl_X8_16 (Nat.le_of_ble_eq_true rfl) (Nat.le_of_ble_eq_true rfl) (fun q6 q7 q8 q9 => ?_)
  refine di_putE [.ref q1, .ref q6, .null, .null, .null, .null, .null, .null, .null] dc_X8_23 fl_X8_18 fp_X8_18 rfl rfl (Nat.le_of_ble_eq_true rfl) rfl ?_
  refine di_aload 0 dc_X8_26 rfl rfl ?_
  refine di_new (ci := 4) (q := (RX4, TX4, 1)) (fs := f0_X4) dc_X8_27 rfl cl_X8_21 zt_X4 zv_X4 tyX4 tyX4_ok f0_X4_ok (Nat.le_of_ble_eq_true rfl) (Nat.le_of_ble_eq_true rfl) (fun q10 => ?_)
  refine di_dup dc_X8_30 ?_
  refine di_init (as := []) (rest := [.ref q10, .ref h0]) dc_X8_31 (ct_X4 q10 h0) pw_X8_X4 rfl rfl (Or.inl ml_X8_23) zx_X4 (Nat.le_of_ble_eq_true rfl) (Nat.le_of_ble_eq_true rfl) (Nat.le_of_ble_eq_true rfl) (fun w1 hw1 => ?_)
  obtain ⟨q11, q12, q13, q14, q15, q16, q17, q18, q19, q20, q21, q22, q23, q24, q25, q26, q27, q28, q29, q30, q31, q32, q33, q34, q35, q36, q37, q38, q39, q40, q41, q42, q43, q44, q45, q46, q47, rfl⟩ := hw1
  refine di_putE [.ref q1, .ref q6, .ref q10, .null, .null, .null, .null, .null, .null] dc_X8_34 fl_X8_24 fp_X8_24 rfl rfl (Nat.le_of_ble_eq_true rfl) rfl ?_
  refine di_aload 0 dc_X8_37 rfl rfl ?_
  refine di_new (ci := 0) (q := (RX0, TX0, 2)) (fs := f0_X0) dc_X8_38 rfl cl_X8_28 zt_X0 zv_X0 tyX0 tyX0_ok f0_X0_ok (Nat.le_of_ble_eq_true rfl) (Nat.le_of_ble_eq_true rfl) (fun q48 => ?_)
  refine di_dup dc_X8_41 ?_
  refine di_init (as := []) (rest := [.ref q48, .ref h0]) dc_X8_42 (ct_X0 q48) pw_X8_X0 rfl rfl (Or.inr (List.mem_of_getElem? (i := 2) rfl)) zx_X0 (Nat.le_of_ble_eq_true rfl) (Nat.le_of_ble_eq_true rfl) (Nat.le_of_ble_eq_true rfl) (fun w1 hw1 => ?_)
  obtain ⟨q49, q50, rfl⟩ := hw1
  refine di_putE [.ref q1, .ref q6, .ref q10, .ref q48, .null, .null, .null, .null, .null] dc_X8_45 fl_X8_31 fp_X8_31 rfl rfl (Nat.le_of_ble_eq_true rfl) rfl ?_
  refine di_aload 0 dc_X8_48 rfl rfl ?_
  refine di_new (ci := 3) (q := (RX3, TX3, 6)) (fs := f0_X3) dc_X8_49 rfl cl_X8_35 zt_X3 zv_X3 tyX3 tyX3_ok f0_X3_ok (Nat.le_of_ble_eq_true rfl) (Nat.le_of_ble_eq_true rfl) (fun q51 => ?_)
  refine di_dup dc_X8_52 ?_
  refine di_init (as := []) (rest := [.ref q51, .ref h0]) dc_X8_53 (ct_X3 q51) pw_X8_X3 rfl rfl (Or.inr (List.mem_of_getElem? (i := 3) rfl)) zx_X3 (Nat.le_of_ble_eq_true rfl) (Nat.le_of_ble_eq_true rfl) (Nat.le_of_ble_eq_true rfl) (fun w1 hw1 => ?_)
  subst hw1
  refine di_putE [.ref q1, .ref q6, .ref q10, .ref q48, .ref q51, .null, .null, .null, .null] dc_X8_56 fl_X8_38 fp_X8_38 rfl rfl (Nat.le_of_ble_eq_true rfl) rfl ?_
  refine di_aload 0 dc_X8_59 rfl rfl ?_
  refine di_new (ci := 6) (q := (RX6, TX6, 6)) (fs := f0_X6) dc_X8_60 rfl cl_X8_42 zt_X6 zv_X6 tyX6 tyX6_ok f0_X6_ok (Nat.le_of_ble_eq_true rfl) (Nat.le_of_ble_eq_true rfl) (fun q52 => ?_)
  refine di_dup dc_X8_63 ?_
  refine di_aload 0 dc_X8_64 rfl rfl ?_
  refine di_get (v := .ref q1) dc_X8_65 fl_X8_12 rfl ?_
  refine di_aload 0 dc_X8_68 rfl rfl ?_
  refine di_get (v := .ref q6) dc_X8_69 fl_X8_18 rfl ?_
  refine di_aload 0 dc_X8_72 rfl rfl ?_
  refine di_get (v := .ref q10) dc_X8_73 fl_X8_24 rfl ?_
  refine di_aload 0 dc_X8_76 rfl rfl ?_
  refine di_get (v := .ref q48) dc_X8_77 fl_X8_31 rfl ?_
  refine di_init (as := [.ref q1, .ref q6, .ref q10, .ref q48]) (rest := [.ref q52, .ref h0]) dc_X8_80 (ct_X6 q52 q1 q6 q10 q48) pw_X8_X6 rfl rfl (Or.inl ml_X8_44) zx_X6 (Nat.le_of_ble_eq_true rfl) (Nat.le_of_ble_eq_true rfl) (Nat.le_of_ble_eq_true rfl) (fun w1 hw1 => ?_)
  obtain ⟨q53, rfl⟩ := hw1
  refine di_putE [.ref q1, .ref q6, .ref q10, .ref q48, .ref q51, .ref q52, .null, .null, .null] dc_X8_83 fl_X8_47 fp_X8_47 rfl rfl (Nat.le_of_ble_eq_true rfl) rfl ?_
  refine di_aload 0 dc_X8_86 rfl rfl ?_
  refine di_new (ci := 5) (q := (RX5, TX5, 13)) (fs := f0_X5) dc_X8_87 rfl cl_X8_51 zt_X5 zv_X5 tyX5 tyX5_ok f0_X5_ok (Nat.le_of_ble_eq_true rfl) (Nat.le_of_ble_eq_true rfl) (fun q54 => ?_)
  refine di_dup dc_X8_90 ?_
  refine di_aload 0 dc_X8_91 rfl rfl ?_
  refine di_get (v := .ref q1) dc_X8_92 fl_X8_12 rfl ?_
  refine di_aload 0 dc_X8_95 rfl rfl ?_
  refine di_get (v := .ref q52) dc_X8_96 fl_X8_47 rfl ?_
  refine di_init (as := [.ref q1, .ref q52]) (rest := [.ref q54, .ref h0]) dc_X8_99 (ct_X5 q54 q1 q52) pw_X8_X5 rfl rfl (Or.inl ml_X8_53) zx_X5 (Nat.le_of_ble_eq_true rfl) (Nat.le_of_ble_eq_true rfl) (Nat.le_of_ble_eq_true rfl) (fun w1 hw1 => ?_)
  obtain ⟨q55, q56, q57, q58, q59, rfl⟩ := hw1
  refine di_putE [.ref q1, .ref q6, .ref q10, .ref q48, .ref q51, .ref q52, .ref q54, .null, .null] dc_X8_102 fl_X8_56 fp_X8_56 rfl rfl (Nat.le_of_ble_eq_true rfl) rfl ?_
  refine di_aload 0 dc_X8_105 rfl rfl ?_
  refine di_new (ci := 2) (q := (RX2, TX2, 5)) (fs := f0_X2) dc_X8_106 rfl cl_X8_60 zt_X2 zv_X2 tyX2 tyX2_ok f0_X2_ok (Nat.le_of_ble_eq_true rfl) (Nat.le_of_ble_eq_true rfl) (fun q60 => ?_)
  refine di_dup dc_X8_109 ?_
  refine di_aload 0 dc_X8_110 rfl rfl ?_
  refine di_get (v := .ref q1) dc_X8_111 fl_X8_12 rfl ?_
  refine di_aload 0 dc_X8_114 rfl rfl ?_
  refine di_get (v := .ref q10) dc_X8_115 fl_X8_24 rfl ?_
  refine di_init (as := [.ref q1, .ref q10]) (rest := [.ref q60, .ref h0]) dc_X8_118 (ct_X2 q60 q1 q10) pw_X8_X2 rfl rfl (Or.inl ml_X8_62) zx_X2 (Nat.le_of_ble_eq_true rfl) (Nat.le_of_ble_eq_true rfl) (Nat.le_of_ble_eq_true rfl) (fun w1 hw1 => ?_)
  obtain ⟨q61, q62, q63, rfl⟩ := hw1
  refine di_putE [.ref q1, .ref q6, .ref q10, .ref q48, .ref q51, .ref q52, .ref q54, .ref q60, .null] dc_X8_121 fl_X8_65 fp_X8_65 rfl rfl (Nat.le_of_ble_eq_true rfl) rfl ?_
  refine di_aload 0 dc_X8_124 rfl rfl ?_
  refine di_bipush (36) dc_X8_125 (by decide) ?_
  refine di_arrI 36 dc_X8_127 (by decide) (by decide) (by decide) (Nat.le_of_ble_eq_true rfl) (Nat.le_of_ble_eq_true rfl) (fun q64 => ?_)
  refine di_putE [.ref q1, .ref q6, .ref q10, .ref q48, .ref q51, .ref q52, .ref q54, .ref q60, .ref q64] dc_X8_129 fl_X8_69 fp_X8_69 rfl rfl (Nat.le_of_ble_eq_true rfl) rfl ?_
  exact di_ret dc_X8_132 (Nat.le_of_ble_eq_true rfl) (Nat.le_of_ble_eq_true rfl) ⟨q1, q2, q3, q4, q5, q6, q7, q8, q9, q10, q11, q12, q13, q14, q15, q16, q17, q18, q19, q20, q21, q22, q23, q24, q25, q26, q27, q28, q29, q30, q31, q32, q33, q34, q35, q36, q37, q38, q39, q40, q41, q42, q43, q44, q45, q46, q47, q48, q49, q50, q51, q52, q53, q54, q55, q56, q57, q58, q59, q60, q61, q62, q63, q64, rfl⟩
