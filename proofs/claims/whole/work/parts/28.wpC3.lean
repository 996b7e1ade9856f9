def w_X8_boxes_32 : Nat → (v2 : Int32) → (v3 : Int32) → (σ : ds_S) → (Q : Option Value → ds_S → Prop) → Prop
  | 0, _, _, _, _ => False
  | f + 1, v2, v3, σ, Q => (((3 : Int32) ≤ v3 → ds_EV mt_X5_forget Yc [.ref 14] σ (fun σ1 => Q (some (.int v2)) σ1)) ∧ (¬ (3 : Int32) ≤ v3 → vp_in v3 3 ∧ ds_EV mt_J7_fill_53178 Yc [.ref (Yc.2.2.2 2 v3.toNatClampNeg), .int (0 : Int32)] σ (fun σ2 => w_X8_boxes_32 f v2 (v3 + (1 : Int32)) σ2 Q)))
theorem x_X8_boxes_32 : ∀ (f : Nat) (v2 : Int32) (v3 : Int32) (g1 : Option Value) (σ : ds_S) (Q : Option Value → ds_S → Prop), w_X8_boxes_32 f v2 v3 σ Q → ds_X mt_X8_boxes Yc 32 [some (.ref 0), g1, some (.int v2), some (.int v3)] [] σ Q := by
  intro f
  induction f with
  | zero => intro v2 v3 g1 σ Q h; exact False.elim h
  | succ f ih =>
    intro v2 v3 g1 σ Q h
    rw [w_X8_boxes_32] at h
    refine ds_blk (ls2 := [some (.ref 0), g1, some (.int v2), some (.int v3)]) (st2 := [.int (3 : Int32), .int v3]) (σ2 := σ) ok_X8_boxes 18 2 32 34 [] rfl rfl rfl rfl trivial ?_
    refine ds_ic_ge (show decode mt_X8_boxes.2.1 34 = .ok (.if_icmp .ge 19, 3) from ds_dec (i := (34, .if_icmp .ge 19, 3, 0, 0, 0, .int 0)) ok_X8_boxes 20 rfl) (t := 53) (by decide) (fun hc => ?_) (fun hc => ?_)
    · replace h := h.1 hc
      refine ds_blk (ls2 := [some (.ref 0), g1, some (.int v2), some (.int v3)]) (st2 := [.ref 14]) (σ2 := σ) ok_X8_boxes 29 2 53 57 [ds_k Yc 0 8] rfl rfl rfl rfl ⟨⟨by decide, rfl⟩, trivial⟩ ?_
      refine ds_callV (z := mt_X5_forget) (b := 14) (as := []) (rest := []) (show decode mt_X8_boxes.2.1 57 = .ok (.invokevirtual 87, 3) from ds_dec (i := (57, .invokevirtual 87, 3, 0, 0, 364, .int 0)) ok_X8_boxes 31 rfl) (ds_E.mono h (fun r σ1 hr => ?_)) ⟨zw_X5_forget.1, zw_X5_forget.2.1, zw_X5_forget.2.2, by decide, by decide⟩ (ds_wb_T (p := 364) (by decide +kernel)) zi_X5_forget zs_X5_forget (by decide) rfl ⟨_, rfl, rfl⟩ (Nat.le_of_ble_eq_true rfl)
      obtain ⟨rfl, h⟩ := hr
      show ds_X mt_X8_boxes Yc 60 [some (.ref 0), g1, some (.int v2), some (.int v3)] [] σ1 Q
      refine ds_blk (ls2 := [some (.ref 0), g1, some (.int v2), some (.int v3)]) (st2 := [.int v2]) (σ2 := σ1) ok_X8_boxes 32 1 60 61 [] rfl rfl rfl rfl trivial ?_
      exact ds_iret (show decode mt_X8_boxes.2.1 61 = .ok (.ireturn, 1) from ds_dec (i := (61, .ireturn, 1, 0, 0, 0, .int 0)) ok_X8_boxes 33 rfl) rfl h
    · replace h := h.2 hc
      obtain ⟨o1, h⟩ := h
      refine ds_blk (ls2 := [some (.ref 0), g1, some (.int v2), some (.int v3)]) (st2 := [.int (0 : Int32), .ref (Yc.2.2.2 2 v3.toNatClampNeg)]) (σ2 := σ) ok_X8_boxes 21 5 37 44 [ds_k Yc 0 8, ds_k Yc 2 14, vp_in v3 3] rfl rfl rfl rfl ⟨⟨by decide, rfl⟩, ⟨by decide, rfl⟩, o1, trivial⟩ ?_
      refine ds_callS (z := mt_J7_fill_53178) (as := [.ref (Yc.2.2.2 2 v3.toNatClampNeg), .int (0 : Int32)]) (rest := []) (show decode mt_X8_boxes.2.1 44 = .ok (.invokestatic 81, 3) from ds_dec (i := (44, .invokestatic 81, 3, 0, 0, 361, .int 0)) ok_X8_boxes 26 rfl) (ds_E.mono h (fun r σ2 hr => ?_)) ⟨zw_J7_fill_53178.1, zw_J7_fill_53178.2.1, zw_J7_fill_53178.2.2, by decide, by decide⟩ (ds_wb_T (p := 361) (by decide +kernel)) zt_J7_fill_53178 (Nat.le_of_ble_eq_true rfl)
      obtain ⟨rfl, h⟩ := hr
      show ds_X mt_X8_boxes Yc 47 [some (.ref 0), g1, some (.int v2), some (.int v3)] [] σ2 Q
      refine ds_blk (ls2 := [some (.ref 0), g1, some (.int v2), some (.int (v3 + (1 : Int32)))]) (st2 := []) (σ2 := σ2) ok_X8_boxes 27 1 47 50 [] rfl rfl rfl rfl trivial ?_
      refine ds_goto (show decode mt_X8_boxes.2.1 50 = .ok (.goto (-18), 3) from ds_dec (i := (50, .goto (-18), 3, 0, 0, 0, .int 0)) ok_X8_boxes 28 rfl) (t := 32) (by decide) ?_
      exact ih v2 (v3 + (1 : Int32)) _ σ2 Q h
def w_X8_boxes (a1 : Int32) (σ : ds_S) (Q : Option Value → ds_S → Prop) : Prop := ((a1 < (2 : Int32) → Q (some (.int (-2 : Int32))) σ) ∧ (¬ a1 < (2 : Int32) → ((a1 ≤ (6 : Int32) → ds_EV mt_X1_renew Yc [.ref 1, .int a1] σ (fun σ1 => ∃ n, w_X8_boxes_32 n (σ.1 1 0) (0 : Int32) σ1 Q)) ∧ (¬ a1 ≤ (6 : Int32) → Q (some (.int (-2 : Int32))) σ))))
theorem e_X8_boxes (a1 : Int32) (σ : ds_S) (Q : Option Value → ds_S → Prop) (h : w_X8_boxes a1 σ Q) : ds_E mt_X8_boxes Yc [.ref 0, .int a1] σ Q := by
  refine ds_enter (by decide) (Nat.le_of_ble_eq_true rfl) ?_
  show ds_X mt_X8_boxes Yc 0 [some (.ref 0), some (.int a1), none, none] [] σ Q
  unfold w_X8_boxes at h
  refine ds_blk (ls2 := [some (.ref 0), some (.int a1), none, none]) (st2 := [.int (2 : Int32), .int a1]) (σ2 := σ) ok_X8_boxes 0 2 0 2 [] rfl rfl rfl rfl trivial ?_
  refine ds_ic_lt (show decode mt_X8_boxes.2.1 2 = .ok (.if_icmp .lt 9, 3) from ds_dec (i := (2, .if_icmp .lt 9, 3, 0, 0, 0, .int 0)) ok_X8_boxes 2 rfl) (t := 11) (by decide) (fun hc => ?_) (fun hc => ?_)
  · replace h := h.1 hc
    refine ds_blk (ls2 := [some (.ref 0), some (.int a1), none, none]) (st2 := [.int (-2 : Int32)]) (σ2 := σ) ok_X8_boxes 6 1 11 13 [] rfl rfl rfl rfl trivial ?_
    exact ds_iret (show decode mt_X8_boxes.2.1 13 = .ok (.ireturn, 1) from ds_dec (i := (13, .ireturn, 1, 0, 0, 0, .int 0)) ok_X8_boxes 7 rfl) rfl h
  · replace h := h.2 hc
    refine ds_blk (ls2 := [some (.ref 0), some (.int a1), none, none]) (st2 := [.int (6 : Int32), .int a1]) (σ2 := σ) ok_X8_boxes 3 2 5 8 [] rfl rfl rfl rfl trivial ?_
    refine ds_ic_le (show decode mt_X8_boxes.2.1 8 = .ok (.if_icmp .le 6, 3) from ds_dec (i := (8, .if_icmp .le 6, 3, 0, 0, 0, .int 0)) ok_X8_boxes 5 rfl) (t := 14) (by decide) (fun hc => ?_) (fun hc => ?_)
    · replace h := h.1 hc
      refine ds_blk (ls2 := [some (.ref 0), some (.int a1), some (.int (σ.1 1 0)), none]) (st2 := [.int a1, .ref 1]) (σ2 := σ) ok_X8_boxes 8 7 14 27 [ds_k Yc 0 8, ds_k Yc 1 1, ds_k Yc 0 8] rfl rfl rfl rfl ⟨⟨by decide, rfl⟩, ⟨by decide, rfl⟩, ⟨by decide, rfl⟩, trivial⟩ ?_
      refine ds_callV (z := mt_X1_renew) (b := 1) (as := [.int a1]) (rest := []) (show decode mt_X8_boxes.2.1 27 = .ok (.invokevirtual 77, 3) from ds_dec (i := (27, .invokevirtual 77, 3, 0, 0, 357, .int 0)) ok_X8_boxes 15 rfl) (ds_E.mono h (fun r σ1 hr => ?_)) ⟨zw_X1_renew.1, zw_X1_renew.2.1, zw_X1_renew.2.2, by decide, by decide⟩ (ds_wb_T (p := 357) (by decide +kernel)) zi_X1_renew zs_X1_renew (by decide) rfl ⟨_, rfl, rfl⟩ (Nat.le_of_ble_eq_true rfl)
      obtain ⟨rfl, h⟩ := hr
      show ds_X mt_X8_boxes Yc 30 [some (.ref 0), some (.int a1), some (.int (σ.1 1 0)), none] [] σ1 Q
      refine ds_blk (ls2 := [some (.ref 0), some (.int a1), some (.int (σ.1 1 0)), some (.int (0 : Int32))]) (st2 := []) (σ2 := σ1) ok_X8_boxes 16 2 30 32 [] rfl rfl rfl rfl trivial ?_
      obtain ⟨n, h⟩ := h
      refine x_X8_boxes_32 n (σ.1 1 0) (0 : Int32) _ σ1 Q h
    · replace h := h.2 hc
      refine ds_blk (ls2 := [some (.ref 0), some (.int a1), none, none]) (st2 := [.int (-2 : Int32)]) (σ2 := σ) ok_X8_boxes 6 1 11 13 [] rfl rfl rfl rfl trivial ?_
      exact ds_iret (show decode mt_X8_boxes.2.1 13 = .ok (.ireturn, 1) from ds_dec (i := (13, .ireturn, 1, 0, 0, 0, .int 0)) ok_X8_boxes 7 rfl) rfl h
def w_X8_line (a1 : Int32) (a2 : Int32) (a3 : Int32) (a4 : Int32) (σ : ds_S) (Q : Option Value → ds_S → Prop) : Prop := ((¬ (q_pair a1 a2 (σ.1 1 0)) = 0 → ((a3 < (1 : Int32) → Q (some (.int (-2 : Int32))) σ) ∧ (¬ a3 < (1 : Int32) → (((100 : Int32) < a3 → Q (some (.int (-2 : Int32))) σ) ∧ (¬ (100 : Int32) < a3 → ((¬ (q_rng a4 1 21) = 0 → (((σ.1 1 1) < (10 : Int32) → ds_EV mt_X5_forget Yc [.ref 14] σ (fun σ3 => ds_EI mt_X1_join Yc [.ref 1, .int a1, .int a2, .int a3, .int a4] σ3 (fun r4 σ4 => Q (some (.int r4)) σ4))) ∧ (¬ (σ.1 1 1) < (10 : Int32) → Q (some (.int (-4 : Int32))) σ))) ∧ ((q_rng a4 1 21) = 0 → Q (some (.int (-2 : Int32))) σ))))))) ∧ ((q_pair a1 a2 (σ.1 1 0)) = 0 → Q (some (.int (-1 : Int32))) σ))
theorem e_X8_line (a1 : Int32) (a2 : Int32) (a3 : Int32) (a4 : Int32) (σ : ds_S) (Q : Option Value → ds_S → Prop) (h : w_X8_line a1 a2 a3 a4 σ Q) : ds_E mt_X8_line Yc [.ref 0, .int a1, .int a2, .int a3, .int a4] σ Q := by
  refine ds_enter (by decide) (Nat.le_of_ble_eq_true rfl) ?_
  show ds_X mt_X8_line Yc 0 [some (.ref 0), some (.int a1), some (.int a2), some (.int a3), some (.int a4)] [] σ Q
  unfold w_X8_line at h
  refine ds_blk (ls2 := [some (.ref 0), some (.int a1), some (.int a2), some (.int a3), some (.int a4)]) (st2 := [.int a2, .int a1, .ref 1]) (σ2 := σ) ok_X8_line 0 4 0 6 [ds_k Yc 0 8] rfl rfl rfl rfl ⟨⟨by decide, rfl⟩, trivial⟩ ?_
  refine ds_callV (z := mt_X1_arePair) (b := 1) (as := [.int a1, .int a2]) (rest := []) (show decode mt_X8_line.2.1 6 = .ok (.invokevirtual 90, 3) from ds_dec (i := (6, .invokevirtual 90, 3, 0, 0, 372, .int 0)) ok_X8_line 4 rfl) (ds_E.mono (sp_X1_arePair a1 a2 σ ) (fun r σ1 hr => ?_)) ⟨zw_X1_arePair.1, zw_X1_arePair.2.1, zw_X1_arePair.2.2, by decide, by decide⟩ (ds_wb_T (p := 372) (by decide +kernel)) zi_X1_arePair zs_X1_arePair (by decide) rfl ⟨_, rfl, rfl⟩ (Nat.le_of_ble_eq_true rfl)
  obtain ⟨x9, rfl, e8, e9⟩ := hr
  rw [e8, e9]
  show ds_X mt_X8_line Yc 9 [some (.ref 0), some (.int a1), some (.int a2), some (.int a3), some (.int a4)] [.int (q_pair a1 a2 (σ.1 1 0))] σ Q
  refine ds_if_ne (show decode mt_X8_line.2.1 9 = .ok (.ifCond .ne 5, 3) from ds_dec (i := (9, .ifCond .ne 5, 3, 0, 0, 0, .int 0)) ok_X8_line 5 rfl) (t := 14) (by decide) (fun hc => ?_) (fun hc => ?_)
  · replace h := h.1 hc
    refine ds_blk (ls2 := [some (.ref 0), some (.int a1), some (.int a2), some (.int a3), some (.int a4)]) (st2 := [.int (1 : Int32), .int a3]) (σ2 := σ) ok_X8_line 8 2 14 16 [] rfl rfl rfl rfl trivial ?_
    refine ds_ic_lt (show decode mt_X8_line.2.1 16 = .ok (.if_icmp .lt 17, 3) from ds_dec (i := (16, .if_icmp .lt 17, 3, 0, 0, 0, .int 0)) ok_X8_line 10 rfl) (t := 33) (by decide) (fun hc => ?_) (fun hc => ?_)
    · replace h := h.1 hc
      refine ds_blk (ls2 := [some (.ref 0), some (.int a1), some (.int a2), some (.int a3), some (.int a4)]) (st2 := [.int (-2 : Int32)]) (σ2 := σ) ok_X8_line 17 1 33 35 [] rfl rfl rfl rfl trivial ?_
      exact ds_iret (show decode mt_X8_line.2.1 35 = .ok (.ireturn, 1) from ds_dec (i := (35, .ireturn, 1, 0, 0, 0, .int 0)) ok_X8_line 18 rfl) rfl h
    · replace h := h.2 hc
      refine ds_blk (ls2 := [some (.ref 0), some (.int a1), some (.int a2), some (.int a3), some (.int a4)]) (st2 := [.int (100 : Int32), .int a3]) (σ2 := σ) ok_X8_line 11 2 19 22 [] rfl rfl rfl rfl trivial ?_
      refine ds_ic_gt (show decode mt_X8_line.2.1 22 = .ok (.if_icmp .gt 11, 3) from ds_dec (i := (22, .if_icmp .gt 11, 3, 0, 0, 0, .int 0)) ok_X8_line 13 rfl) (t := 33) (by decide) (fun hc => ?_) (fun hc => ?_)
      · replace h := h.1 hc
        refine ds_blk (ls2 := [some (.ref 0), some (.int a1), some (.int a2), some (.int a3), some (.int a4)]) (st2 := [.int (-2 : Int32)]) (σ2 := σ) ok_X8_line 17 1 33 35 [] rfl rfl rfl rfl trivial ?_
        exact ds_iret (show decode mt_X8_line.2.1 35 = .ok (.ireturn, 1) from ds_dec (i := (35, .ireturn, 1, 0, 0, 0, .int 0)) ok_X8_line 18 rfl) rfl h
      · replace h := h.2 hc
        refine ds_blk (ls2 := [some (.ref 0), some (.int a1), some (.int a2), some (.int a3), some (.int a4)]) (st2 := [.int a4]) (σ2 := σ) ok_X8_line 14 1 25 27 [] rfl rfl rfl rfl trivial ?_
        refine ds_callS (z := mt_X8_isWeight) (as := [.int a4]) (rest := []) (show decode mt_X8_line.2.1 27 = .ok (.invokestatic 94, 3) from ds_dec (i := (27, .invokestatic 94, 3, 0, 0, 380, .int 0)) ok_X8_line 15 rfl) (ds_E.mono (sp_X8_isWeight a4 σ ) (fun r σ2 hr => ?_)) ⟨zw_X8_isWeight.1, zw_X8_isWeight.2.1, zw_X8_isWeight.2.2, by decide, by decide⟩ (ds_wb_T (p := 380) (by decide +kernel)) zt_X8_isWeight (Nat.le_of_ble_eq_true rfl)
        obtain ⟨x9, rfl, e8, e9⟩ := hr
        rw [e8, e9]
        show ds_X mt_X8_line Yc 30 [some (.ref 0), some (.int a1), some (.int a2), some (.int a3), some (.int a4)] [.int (q_rng a4 1 21)] σ Q
        refine ds_if_ne (show decode mt_X8_line.2.1 30 = .ok (.ifCond .ne 6, 3) from ds_dec (i := (30, .ifCond .ne 6, 3, 0, 0, 0, .int 0)) ok_X8_line 16 rfl) (t := 36) (by decide) (fun hc => ?_) (fun hc => ?_)
        · replace h := h.1 hc
          refine ds_blk (ls2 := [some (.ref 0), some (.int a1), some (.int a2), some (.int a3), some (.int a4)]) (st2 := [.int (10 : Int32), .int (σ.1 1 1)]) (σ2 := σ) ok_X8_line 19 4 36 45 [ds_k Yc 0 8, ds_k Yc 1 1] rfl rfl rfl rfl ⟨⟨by decide, rfl⟩, ⟨by decide, rfl⟩, trivial⟩ ?_
          refine ds_ic_lt (show decode mt_X8_line.2.1 45 = .ok (.if_icmp .lt 6, 3) from ds_dec (i := (45, .if_icmp .lt 6, 3, 0, 0, 0, .int 0)) ok_X8_line 23 rfl) (t := 51) (by decide) (fun hc => ?_) (fun hc => ?_)
          · replace h := h.1 hc
            refine ds_blk (ls2 := [some (.ref 0), some (.int a1), some (.int a2), some (.int a3), some (.int a4)]) (st2 := [.ref 14]) (σ2 := σ) ok_X8_line 26 2 51 55 [ds_k Yc 0 8] rfl rfl rfl rfl ⟨⟨by decide, rfl⟩, trivial⟩ ?_
            refine ds_callV (z := mt_X5_forget) (b := 14) (as := []) (rest := []) (show decode mt_X8_line.2.1 55 = .ok (.invokevirtual 87, 3) from ds_dec (i := (55, .invokevirtual 87, 3, 0, 0, 364, .int 0)) ok_X8_line 28 rfl) (ds_E.mono h (fun r σ3 hr => ?_)) ⟨zw_X5_forget.1, zw_X5_forget.2.1, zw_X5_forget.2.2, by decide, by decide⟩ (ds_wb_T (p := 364) (by decide +kernel)) zi_X5_forget zs_X5_forget (by decide) rfl ⟨_, rfl, rfl⟩ (Nat.le_of_ble_eq_true rfl)
            obtain ⟨rfl, h⟩ := hr
            show ds_X mt_X8_line Yc 58 [some (.ref 0), some (.int a1), some (.int a2), some (.int a3), some (.int a4)] [] σ3 Q
            refine ds_blk (ls2 := [some (.ref 0), some (.int a1), some (.int a2), some (.int a3), some (.int a4)]) (st2 := [.int a4, .int a3, .int a2, .int a1, .ref 1]) (σ2 := σ3) ok_X8_line 29 6 58 67 [ds_k Yc 0 8] rfl rfl rfl rfl ⟨⟨by decide, rfl⟩, trivial⟩ ?_
            refine ds_callV (z := mt_X1_join) (b := 1) (as := [.int a1, .int a2, .int a3, .int a4]) (rest := []) (show decode mt_X8_line.2.1 67 = .ok (.invokevirtual 101, 3) from ds_dec (i := (67, .invokevirtual 101, 3, 0, 0, 383, .int 0)) ok_X8_line 35 rfl) (ds_E.mono h (fun r σ4 hr => ?_)) ⟨zw_X1_join.1, zw_X1_join.2.1, zw_X1_join.2.2, by decide, by decide⟩ (ds_wb_T (p := 383) (by decide +kernel)) zi_X1_join zs_X1_join (by decide) rfl ⟨_, rfl, rfl⟩ (Nat.le_of_ble_eq_true rfl)
            obtain ⟨r4, rfl, h⟩ := hr
            show ds_X mt_X8_line Yc 70 [some (.ref 0), some (.int a1), some (.int a2), some (.int a3), some (.int a4)] [.int r4] σ4 Q
            exact ds_iret (show decode mt_X8_line.2.1 70 = .ok (.ireturn, 1) from ds_dec (i := (70, .ireturn, 1, 0, 0, 0, .int 0)) ok_X8_line 36 rfl) rfl h
          · replace h := h.2 hc
            refine ds_blk (ls2 := [some (.ref 0), some (.int a1), some (.int a2), some (.int a3), some (.int a4)]) (st2 := [.int (-4 : Int32)]) (σ2 := σ) ok_X8_line 24 1 48 50 [] rfl rfl rfl rfl trivial ?_
            exact ds_iret (show decode mt_X8_line.2.1 50 = .ok (.ireturn, 1) from ds_dec (i := (50, .ireturn, 1, 0, 0, 0, .int 0)) ok_X8_line 25 rfl) rfl h
        · replace h := h.2 hc
          refine ds_blk (ls2 := [some (.ref 0), some (.int a1), some (.int a2), some (.int a3), some (.int a4)]) (st2 := [.int (-2 : Int32)]) (σ2 := σ) ok_X8_line 17 1 33 35 [] rfl rfl rfl rfl trivial ?_
          exact ds_iret (show decode mt_X8_line.2.1 35 = .ok (.ireturn, 1) from ds_dec (i := (35, .ireturn, 1, 0, 0, 0, .int 0)) ok_X8_line 18 rfl) rfl h
  · replace h := h.2 hc
    refine ds_blk (ls2 := [some (.ref 0), some (.int a1), some (.int a2), some (.int a3), some (.int a4)]) (st2 := [.int (-1 : Int32)]) (σ2 := σ) ok_X8_line 6 1 12 13 [] rfl rfl rfl rfl trivial ?_
    exact ds_iret (show decode mt_X8_line.2.1 13 = .ok (.ireturn, 1) from ds_dec (i := (13, .ireturn, 1, 0, 0, 0, .int 0)) ok_X8_line 7 rfl) rfl h
def w_X8_about (a1 : Int32) (a2 : Int32) (σ : ds_S) (Q : Option Value → ds_S → Prop) : Prop := ((¬ (q_rng a1 0 (σ.1 1 1)) = 0 → ((a2.toInt < 0 ∨ 5 < a2.toInt → Q (some (.int (-2 : Int32))) σ) ∧ (a2 = (0 : Int32) → vp_in a1 10 ∧ Q (some (.int (σ.1 61 a1.toNatClampNeg))) σ) ∧ (a2 = (1 : Int32) → vp_in a1 10 ∧ Q (some (.int (σ.1 62 a1.toNatClampNeg))) σ) ∧ (a2 = (2 : Int32) → vp_in a1 10 ∧ Q (some (.int (σ.1 63 a1.toNatClampNeg))) σ) ∧ (a2 = (3 : Int32) → vp_in a1 10 ∧ Q (some (.int (σ.1 64 a1.toNatClampNeg))) σ) ∧ (a2 = (4 : Int32) → Q (some (.int (q_bit (σ.1 1 6) a1))) σ) ∧ (a2 = (5 : Int32) → Q (some (.int (q_bit (σ.1 1 7) a1))) σ))) ∧ ((q_rng a1 0 (σ.1 1 1)) = 0 → Q (some (.int (-1 : Int32))) σ))
theorem e_X8_about (a1 : Int32) (a2 : Int32) (σ : ds_S) (Q : Option Value → ds_S → Prop) (h : w_X8_about a1 a2 σ Q) : ds_E mt_X8_about Yc [.ref 0, .int a1, .int a2] σ Q := by
  refine ds_enter (by decide) (Nat.le_of_ble_eq_true rfl) ?_
  show ds_X mt_X8_about Yc 0 [some (.ref 0), some (.int a1), some (.int a2)] [] σ Q
  unfold w_X8_about at h
  refine ds_blk (ls2 := [some (.ref 0), some (.int a1), some (.int a2)]) (st2 := [.int a1, .ref 1]) (σ2 := σ) ok_X8_about 0 3 0 5 [ds_k Yc 0 8] rfl rfl rfl rfl ⟨⟨by decide, rfl⟩, trivial⟩ ?_
  refine ds_callV (z := mt_X1_hasLine) (b := 1) (as := [.int a1]) (rest := []) (show decode mt_X8_about.2.1 5 = .ok (.invokevirtual 105, 3) from ds_dec (i := (5, .invokevirtual 105, 3, 0, 0, 391, .int 0)) ok_X8_about 3 rfl) (ds_E.mono (sp_X1_hasLine a1 σ ) (fun r σ1 hr => ?_)) ⟨zw_X1_hasLine.1, zw_X1_hasLine.2.1, zw_X1_hasLine.2.2, by decide, by decide⟩ (ds_wb_T (p := 391) (by decide +kernel)) zi_X1_hasLine zs_X1_hasLine (by decide) rfl ⟨_, rfl, rfl⟩ (Nat.le_of_ble_eq_true rfl)
  obtain ⟨x9, rfl, e8, e9⟩ := hr
  rw [e8, e9]
  show ds_X mt_X8_about Yc 8 [some (.ref 0), some (.int a1), some (.int a2)] [.int (q_rng a1 0 (σ.1 1 1))] σ Q
  refine ds_if_ne (show decode mt_X8_about.2.1 8 = .ok (.ifCond .ne 5, 3) from ds_dec (i := (8, .ifCond .ne 5, 3, 0, 0, 0, .int 0)) ok_X8_about 4 rfl) (t := 13) (by decide) (fun hc => ?_) (fun hc => ?_)
  · replace h := h.1 hc
    refine ds_blk (ls2 := [some (.ref 0), some (.int a1), some (.int a2)]) (st2 := [.int a2]) (σ2 := σ) ok_X8_about 7 1 13 14 [] rfl rfl rfl rfl trivial ?_
    refine ds_table (show decode mt_X8_about.2.1 14 = .ok (.tableswitch 102 0 5 #[38, 48, 58, 68, 78, 90], 38) from ds_dec (i := (14, .tableswitch 102 0 5 #[38, 48, 58, 68, 78, 90], 38, 0, 0, 0, .int 0)) ok_X8_about 8 rfl) 116 (by decide) (fun hc => ?_) (fun hc1 hc2 => ?_)
    · replace h := h.1 hc
      refine ds_blk (ls2 := [some (.ref 0), some (.int a1), some (.int a2)]) (st2 := [.int (-2 : Int32)]) (σ2 := σ) ok_X8_about 45 1 116 118 [] rfl rfl rfl rfl trivial ?_
      exact ds_iret (show decode mt_X8_about.2.1 118 = .ok (.ireturn, 1) from ds_dec (i := (118, .ireturn, 1, 0, 0, 0, .int 0)) ok_X8_about 46 rfl) rfl h
    · have hcs : a2.toInt = 0 ∨ a2.toInt = 1 ∨ a2.toInt = 2 ∨ a2.toInt = 3 ∨ a2.toInt = 4 ∨ a2.toInt = 5 := by omega
      rcases hcs with e | e | e | e | e | e
      · refine ⟨38, 52, by rw [e]; rfl, by decide, ?_⟩
        replace h := h.2.1 (Int32.toInt_inj.mp (by rw [e]; rfl))
        obtain ⟨o1, h⟩ := h
        refine ds_blk (ls2 := [some (.ref 0), some (.int a1), some (.int a2)]) (st2 := [.int (σ.1 61 a1.toNatClampNeg)]) (σ2 := σ) ok_X8_about 9 5 52 61 [ds_k Yc 0 8, ds_k Yc 1 1, ds_k Yc 61 10, vp_in a1 10] rfl rfl rfl rfl ⟨⟨by decide, rfl⟩, ⟨by decide, rfl⟩, ⟨by decide, rfl⟩, o1, trivial⟩ ?_
        exact ds_iret (show decode mt_X8_about.2.1 61 = .ok (.ireturn, 1) from ds_dec (i := (61, .ireturn, 1, 0, 0, 0, .int 0)) ok_X8_about 14 rfl) rfl h
      · refine ⟨48, 62, by rw [e]; rfl, by decide, ?_⟩
        replace h := h.2.2.1 (Int32.toInt_inj.mp (by rw [e]; rfl))
        obtain ⟨o2, h⟩ := h
        refine ds_blk (ls2 := [some (.ref 0), some (.int a1), some (.int a2)]) (st2 := [.int (σ.1 62 a1.toNatClampNeg)]) (σ2 := σ) ok_X8_about 15 5 62 71 [ds_k Yc 0 8, ds_k Yc 1 1, ds_k Yc 62 10, vp_in a1 10] rfl rfl rfl rfl ⟨⟨by decide, rfl⟩, ⟨by decide, rfl⟩, ⟨by decide, rfl⟩, o2, trivial⟩ ?_
        exact ds_iret (show decode mt_X8_about.2.1 71 = .ok (.ireturn, 1) from ds_dec (i := (71, .ireturn, 1, 0, 0, 0, .int 0)) ok_X8_about 20 rfl) rfl h
      · refine ⟨58, 72, by rw [e]; rfl, by decide, ?_⟩
        replace h := h.2.2.2.1 (Int32.toInt_inj.mp (by rw [e]; rfl))
        obtain ⟨o3, h⟩ := h
        refine ds_blk (ls2 := [some (.ref 0), some (.int a1), some (.int a2)]) (st2 := [.int (σ.1 63 a1.toNatClampNeg)]) (σ2 := σ) ok_X8_about 21 5 72 81 [ds_k Yc 0 8, ds_k Yc 1 1, ds_k Yc 63 10, vp_in a1 10] rfl rfl rfl rfl ⟨⟨by decide, rfl⟩, ⟨by decide, rfl⟩, ⟨by decide, rfl⟩, o3, trivial⟩ ?_
        exact ds_iret (show decode mt_X8_about.2.1 81 = .ok (.ireturn, 1) from ds_dec (i := (81, .ireturn, 1, 0, 0, 0, .int 0)) ok_X8_about 26 rfl) rfl h
      · refine ⟨68, 82, by rw [e]; rfl, by decide, ?_⟩
        replace h := h.2.2.2.2.1 (Int32.toInt_inj.mp (by rw [e]; rfl))
        obtain ⟨o4, h⟩ := h
        refine ds_blk (ls2 := [some (.ref 0), some (.int a1), some (.int a2)]) (st2 := [.int (σ.1 64 a1.toNatClampNeg)]) (σ2 := σ) ok_X8_about 27 5 82 91 [ds_k Yc 0 8, ds_k Yc 1 1, ds_k Yc 64 10, vp_in a1 10] rfl rfl rfl rfl ⟨⟨by decide, rfl⟩, ⟨by decide, rfl⟩, ⟨by decide, rfl⟩, o4, trivial⟩ ?_
        exact ds_iret (show decode mt_X8_about.2.1 91 = .ok (.ireturn, 1) from ds_dec (i := (91, .ireturn, 1, 0, 0, 0, .int 0)) ok_X8_about 32 rfl) rfl h
      · refine ⟨78, 92, by rw [e]; rfl, by decide, ?_⟩
        replace h := h.2.2.2.2.2.1 (Int32.toInt_inj.mp (by rw [e]; rfl))
        refine ds_blk (ls2 := [some (.ref 0), some (.int a1), some (.int a2)]) (st2 := [.int a1, .int (σ.1 1 6)]) (σ2 := σ) ok_X8_about 33 4 92 100 [ds_k Yc 0 8, ds_k Yc 1 1] rfl rfl rfl rfl ⟨⟨by decide, rfl⟩, ⟨by decide, rfl⟩, trivial⟩ ?_
        refine ds_callS (z := mt_X8_bit) (as := [.int (σ.1 1 6), .int a1]) (rest := []) (show decode mt_X8_about.2.1 100 = .ok (.invokestatic 123, 3) from ds_dec (i := (100, .invokestatic 123, 3, 0, 0, 395, .int 0)) ok_X8_about 37 rfl) (ds_E.mono (sp_X8_bit (σ.1 1 6) a1 σ ) (fun r σ2 hr => ?_)) ⟨zw_X8_bit.1, zw_X8_bit.2.1, zw_X8_bit.2.2, by decide, by decide⟩ (ds_wb_T (p := 395) (by decide +kernel)) zt_X8_bit (Nat.le_of_ble_eq_true rfl)
        obtain ⟨x9, rfl, e8, e9⟩ := hr
        rw [e8, e9]
        show ds_X mt_X8_about Yc 103 [some (.ref 0), some (.int a1), some (.int a2)] [.int (q_bit (σ.1 1 6) a1)] σ Q
        exact ds_iret (show decode mt_X8_about.2.1 103 = .ok (.ireturn, 1) from ds_dec (i := (103, .ireturn, 1, 0, 0, 0, .int 0)) ok_X8_about 38 rfl) rfl h
      · refine ⟨90, 104, by rw [e]; rfl, by decide, ?_⟩
        replace h := h.2.2.2.2.2.2 (Int32.toInt_inj.mp (by rw [e]; rfl))
        refine ds_blk (ls2 := [some (.ref 0), some (.int a1), some (.int a2)]) (st2 := [.int a1, .int (σ.1 1 7)]) (σ2 := σ) ok_X8_about 39 4 104 112 [ds_k Yc 0 8, ds_k Yc 1 1] rfl rfl rfl rfl ⟨⟨by decide, rfl⟩, ⟨by decide, rfl⟩, trivial⟩ ?_
        refine ds_callS (z := mt_X8_bit) (as := [.int (σ.1 1 7), .int a1]) (rest := []) (show decode mt_X8_about.2.1 112 = .ok (.invokestatic 123, 3) from ds_dec (i := (112, .invokestatic 123, 3, 0, 0, 395, .int 0)) ok_X8_about 43 rfl) (ds_E.mono (sp_X8_bit (σ.1 1 7) a1 σ ) (fun r σ3 hr => ?_)) ⟨zw_X8_bit.1, zw_X8_bit.2.1, zw_X8_bit.2.2, by decide, by decide⟩ (ds_wb_T (p := 395) (by decide +kernel)) zt_X8_bit (Nat.le_of_ble_eq_true rfl)
        obtain ⟨x9, rfl, e8, e9⟩ := hr
        rw [e8, e9]
        show ds_X mt_X8_about Yc 115 [some (.ref 0), some (.int a1), some (.int a2)] [.int (q_bit (σ.1 1 7) a1)] σ Q
        exact ds_iret (show decode mt_X8_about.2.1 115 = .ok (.ireturn, 1) from ds_dec (i := (115, .ireturn, 1, 0, 0, 0, .int 0)) ok_X8_about 44 rfl) rfl h
  · replace h := h.2 hc
    refine ds_blk (ls2 := [some (.ref 0), some (.int a1), some (.int a2)]) (st2 := [.int (-1 : Int32)]) (σ2 := σ) ok_X8_about 5 1 11 12 [] rfl rfl rfl rfl trivial ?_
    exact ds_iret (show decode mt_X8_about.2.1 12 = .ok (.ireturn, 1) from ds_dec (i := (12, .ireturn, 1, 0, 0, 0, .int 0)) ok_X8_about 6 rfl) rfl h
def w_X8_weigh (a1 : Int32) (a2 : Int32) (σ : ds_S) (Q : Option Value → ds_S → Prop) : Prop := ((¬ (q_rng a1 0 (σ.1 1 1)) = 0 → ((¬ (q_rng a2 1 21) = 0 → ((¬ (q_bit (σ.1 1 6) a1) = (1 : Int32) → vp_in a1 10 ∧ vp_in a1 10 ∧ ds_EV mt_X5_forget Yc [.ref 14] (ds_wi σ 64 a1.toNatClampNeg a2) (fun σ4 => Q (some (.int (σ.1 64 a1.toNatClampNeg))) σ4)) ∧ ((q_bit (σ.1 1 6) a1) = (1 : Int32) → Q (some (.int (-5 : Int32))) σ))) ∧ ((q_rng a2 1 21) = 0 → Q (some (.int (-2 : Int32))) σ))) ∧ ((q_rng a1 0 (σ.1 1 1)) = 0 → Q (some (.int (-1 : Int32))) σ))
theorem e_X8_weigh (a1 : Int32) (a2 : Int32) (σ : ds_S) (Q : Option Value → ds_S → Prop) (h : w_X8_weigh a1 a2 σ Q) : ds_E mt_X8_weigh Yc [.ref 0, .int a1, .int a2] σ Q := by
  refine ds_enter (by decide) (Nat.le_of_ble_eq_true rfl) ?_
  show ds_X mt_X8_weigh Yc 0 [some (.ref 0), some (.int a1), some (.int a2), none] [] σ Q
  unfold w_X8_weigh at h
  refine ds_blk (ls2 := [some (.ref 0), some (.int a1), some (.int a2), none]) (st2 := [.int a1, .ref 1]) (σ2 := σ) ok_X8_weigh 0 3 0 5 [ds_k Yc 0 8] rfl rfl rfl rfl ⟨⟨by decide, rfl⟩, trivial⟩ ?_
  refine ds_callV (z := mt_X1_hasLine) (b := 1) (as := [.int a1]) (rest := []) (show decode mt_X8_weigh.2.1 5 = .ok (.invokevirtual 105, 3) from ds_dec (i := (5, .invokevirtual 105, 3, 0, 0, 391, .int 0)) ok_X8_weigh 3 rfl) (ds_E.mono (sp_X1_hasLine a1 σ ) (fun r σ1 hr => ?_)) ⟨zw_X1_hasLine.1, zw_X1_hasLine.2.1, zw_X1_hasLine.2.2, by decide, by decide⟩ (ds_wb_T (p := 391) (by decide +kernel)) zi_X1_hasLine zs_X1_hasLine (by decide) rfl ⟨_, rfl, rfl⟩ (Nat.le_of_ble_eq_true rfl)
  obtain ⟨x9, rfl, e8, e9⟩ := hr
  rw [e8, e9]
  show ds_X mt_X8_weigh Yc 8 [some (.ref 0), some (.int a1), some (.int a2), none] [.int (q_rng a1 0 (σ.1 1 1))] σ Q
  refine ds_if_ne (show decode mt_X8_weigh.2.1 8 = .ok (.ifCond .ne 5, 3) from ds_dec (i := (8, .ifCond .ne 5, 3, 0, 0, 0, .int 0)) ok_X8_weigh 4 rfl) (t := 13) (by decide) (fun hc => ?_) (fun hc => ?_)
  · replace h := h.1 hc
    refine ds_blk (ls2 := [some (.ref 0), some (.int a1), some (.int a2), none]) (st2 := [.int a2]) (σ2 := σ) ok_X8_weigh 7 1 13 14 [] rfl rfl rfl rfl trivial ?_
    refine ds_callS (z := mt_X8_isWeight) (as := [.int a2]) (rest := []) (show decode mt_X8_weigh.2.1 14 = .ok (.invokestatic 94, 3) from ds_dec (i := (14, .invokestatic 94, 3, 0, 0, 380, .int 0)) ok_X8_weigh 8 rfl) (ds_E.mono (sp_X8_isWeight a2 σ ) (fun r σ2 hr => ?_)) ⟨zw_X8_isWeight.1, zw_X8_isWeight.2.1, zw_X8_isWeight.2.2, by decide, by decide⟩ (ds_wb_T (p := 380) (by decide +kernel)) zt_X8_isWeight (Nat.le_of_ble_eq_true rfl)
    obtain ⟨x9, rfl, e8, e9⟩ := hr
    rw [e8, e9]
    show ds_X mt_X8_weigh Yc 17 [some (.ref 0), some (.int a1), some (.int a2), none] [.int (q_rng a2 1 21)] σ Q
    refine ds_if_ne (show decode mt_X8_weigh.2.1 17 = .ok (.ifCond .ne 6, 3) from ds_dec (i := (17, .ifCond .ne 6, 3, 0, 0, 0, .int 0)) ok_X8_weigh 9 rfl) (t := 23) (by decide) (fun hc => ?_) (fun hc => ?_)
    · replace h := h.1 hc
      refine ds_blk (ls2 := [some (.ref 0), some (.int a1), some (.int a2), none]) (st2 := [.int a1, .int (σ.1 1 6)]) (σ2 := σ) ok_X8_weigh 12 4 23 31 [ds_k Yc 0 8, ds_k Yc 1 1] rfl rfl rfl rfl ⟨⟨by decide, rfl⟩, ⟨by decide, rfl⟩, trivial⟩ ?_
      refine ds_callS (z := mt_X8_bit) (as := [.int (σ.1 1 6), .int a1]) (rest := []) (show decode mt_X8_weigh.2.1 31 = .ok (.invokestatic 123, 3) from ds_dec (i := (31, .invokestatic 123, 3, 0, 0, 395, .int 0)) ok_X8_weigh 16 rfl) (ds_E.mono (sp_X8_bit (σ.1 1 6) a1 σ ) (fun r σ3 hr => ?_)) ⟨zw_X8_bit.1, zw_X8_bit.2.1, zw_X8_bit.2.2, by decide, by decide⟩ (ds_wb_T (p := 395) (by decide +kernel)) zt_X8_bit (Nat.le_of_ble_eq_true rfl)
      obtain ⟨x9, rfl, e8, e9⟩ := hr
      rw [e8, e9]
      show ds_X mt_X8_weigh Yc 34 [some (.ref 0), some (.int a1), some (.int a2), none] [.int (q_bit (σ.1 1 6) a1)] σ Q
      refine ds_blk (ls2 := [some (.ref 0), some (.int a1), some (.int a2), none]) (st2 := [.int (1 : Int32), .int (q_bit (σ.1 1 6) a1)]) (σ2 := σ) ok_X8_weigh 17 1 34 35 [] rfl rfl rfl rfl trivial ?_
      refine ds_ic_ne (show decode mt_X8_weigh.2.1 35 = .ok (.if_icmp .ne 6, 3) from ds_dec (i := (35, .if_icmp .ne 6, 3, 0, 0, 0, .int 0)) ok_X8_weigh 18 rfl) (t := 41) (by decide) (fun hc => ?_) (fun hc => ?_)
      · replace h := h.1 hc
        obtain ⟨o1, o2, h⟩ := h
        refine ds_blk (ls2 := [some (.ref 0), some (.int a1), some (.int a2), some (.int (σ.1 64 a1.toNatClampNeg))]) (st2 := [.ref 14]) (σ2 := (ds_wi σ 64 a1.toNatClampNeg a2)) ok_X8_weigh 21 14 41 65 [ds_k Yc 0 8, ds_k Yc 1 1, ds_k Yc 64 10, vp_in a1 10, ds_k Yc 0 8, ds_k Yc 1 1, ds_k Yc 64 10, vp_in a1 10, ds_k Yc 0 8] rfl rfl rfl rfl ⟨⟨by decide, rfl⟩, ⟨by decide, rfl⟩, ⟨by decide, rfl⟩, o1, ⟨by decide, rfl⟩, ⟨by decide, rfl⟩, ⟨by decide, rfl⟩, o2, ⟨by decide, rfl⟩, trivial⟩ ?_
        refine ds_callV (z := mt_X5_forget) (b := 14) (as := []) (rest := []) (show decode mt_X8_weigh.2.1 65 = .ok (.invokevirtual 87, 3) from ds_dec (i := (65, .invokevirtual 87, 3, 0, 0, 364, .int 0)) ok_X8_weigh 35 rfl) (ds_E.mono h (fun r σ4 hr => ?_)) ⟨zw_X5_forget.1, zw_X5_forget.2.1, zw_X5_forget.2.2, by decide, by decide⟩ (ds_wb_T (p := 364) (by decide +kernel)) zi_X5_forget zs_X5_forget (by decide) rfl ⟨_, rfl, rfl⟩ (Nat.le_of_ble_eq_true rfl)
        obtain ⟨rfl, h⟩ := hr
        show ds_X mt_X8_weigh Yc 68 [some (.ref 0), some (.int a1), some (.int a2), some (.int (σ.1 64 a1.toNatClampNeg))] [] σ4 Q
        refine ds_blk (ls2 := [some (.ref 0), some (.int a1), some (.int a2), some (.int (σ.1 64 a1.toNatClampNeg))]) (st2 := [.int (σ.1 64 a1.toNatClampNeg)]) (σ2 := σ4) ok_X8_weigh 36 1 68 69 [] rfl rfl rfl rfl trivial ?_
        exact ds_iret (show decode mt_X8_weigh.2.1 69 = .ok (.ireturn, 1) from ds_dec (i := (69, .ireturn, 1, 0, 0, 0, .int 0)) ok_X8_weigh 37 rfl) rfl h
      · replace h := h.2 hc
        refine ds_blk (ls2 := [some (.ref 0), some (.int a1), some (.int a2), none]) (st2 := [.int (-5 : Int32)]) (σ2 := σ) ok_X8_weigh 19 1 38 40 [] rfl rfl rfl rfl trivial ?_
        exact ds_iret (show decode mt_X8_weigh.2.1 40 = .ok (.ireturn, 1) from ds_dec (i := (40, .ireturn, 1, 0, 0, 0, .int 0)) ok_X8_weigh 20 rfl) rfl h
    · replace h := h.2 hc
      refine ds_blk (ls2 := [some (.ref 0), some (.int a1), some (.int a2), none]) (st2 := [.int (-2 : Int32)]) (σ2 := σ) ok_X8_weigh 10 1 20 22 [] rfl rfl rfl rfl trivial ?_
      exact ds_iret (show decode mt_X8_weigh.2.1 22 = .ok (.ireturn, 1) from ds_dec (i := (22, .ireturn, 1, 0, 0, 0, .int 0)) ok_X8_weigh 11 rfl) rfl h
  · replace h := h.2 hc
    refine ds_blk (ls2 := [some (.ref 0), some (.int a1), some (.int a2), none]) (st2 := [.int (-1 : Int32)]) (σ2 := σ) ok_X8_weigh 5 1 11 12 [] rfl rfl rfl rfl trivial ?_
    exact ds_iret (show decode mt_X8_weigh.2.1 12 = .ok (.ireturn, 1) from ds_dec (i := (12, .ireturn, 1, 0, 0, 0, .int 0)) ok_X8_weigh 6 rfl) rfl h
def w_X8_mark_95 (v4 : Int32) (σ : ds_S) (Q : Option Value → ds_S → Prop) : Prop := ds_EV mt_X5_forget Yc [.ref 14] σ (fun σ1 => Q (some (.int v4)) σ1)
theorem x_X8_mark_95 (v4 : Int32) (g1 : Option Value) (g2 : Option Value) (g3 : Option Value) (σ : ds_S) (Q : Option Value → ds_S → Prop) (h : w_X8_mark_95 v4 σ Q) : ds_X mt_X8_mark Yc 95 [some (.ref 0), g1, g2, g3, some (.int v4)] [] σ Q := by
  unfold w_X8_mark_95 at h
  refine ds_blk (ls2 := [some (.ref 0), g1, g2, g3, some (.int v4)]) (st2 := [.ref 14]) (σ2 := σ) ok_X8_mark 45 2 95 99 [ds_k Yc 0 8] rfl rfl rfl rfl ⟨⟨by decide, rfl⟩, trivial⟩ ?_
  refine ds_callV (z := mt_X5_forget) (b := 14) (as := []) (rest := []) (show decode mt_X8_mark.2.1 99 = .ok (.invokevirtual 87, 3) from ds_dec (i := (99, .invokevirtual 87, 3, 0, 0, 364, .int 0)) ok_X8_mark 47 rfl) (ds_E.mono h (fun r σ1 hr => ?_)) ⟨zw_X5_forget.1, zw_X5_forget.2.1, zw_X5_forget.2.2, by decide, by decide⟩ (ds_wb_T (p := 364) (by decide +kernel)) zi_X5_forget zs_X5_forget (by decide) rfl ⟨_, rfl, rfl⟩ (Nat.le_of_ble_eq_true rfl)
  obtain ⟨rfl, h⟩ := hr
  show ds_X mt_X8_mark Yc 102 [some (.ref 0), g1, g2, g3, some (.int v4)] [] σ1 Q
  refine ds_blk (ls2 := [some (.ref 0), g1, g2, g3, some (.int v4)]) (st2 := [.int v4]) (σ2 := σ1) ok_X8_mark 48 1 102 104 [] rfl rfl rfl rfl trivial ?_
  exact ds_iret (show decode mt_X8_mark.2.1 104 = .ok (.ireturn, 1) from ds_dec (i := (104, .ireturn, 1, 0, 0, 0, .int 0)) ok_X8_mark 49 rfl) rfl h
def w_X8_mark_44 (v1 : Int32) (v2 : Int32) (v3 : Int32) (t0 : Int32) (σ : ds_S) (Q : Option Value → ds_S → Prop) : Prop := ((¬ v2 = 0 → w_X8_mark_95 (q_bit t0 v1) (ds_wi σ 1 7 (q_wb (σ.1 1 7) v1 v3)) Q) ∧ (v2 = 0 → w_X8_mark_95 (q_bit t0 v1) (ds_wi σ 1 6 (q_wb (σ.1 1 6) v1 v3)) Q))
theorem x_X8_mark_44 (v1 : Int32) (v2 : Int32) (v3 : Int32) (t0 : Int32) (g4 : Option Value) (σ : ds_S) (Q : Option Value → ds_S → Prop) (h : w_X8_mark_44 v1 v2 v3 t0 σ Q) : ds_X mt_X8_mark Yc 44 [some (.ref 0), some (.int v1), some (.int v2), some (.int v3), g4] [.int t0] σ Q := by
  unfold w_X8_mark_44 at h
  refine ds_blk (ls2 := [some (.ref 0), some (.int v1), some (.int v2), some (.int v3), g4]) (st2 := [.int v1, .int t0]) (σ2 := σ) ok_X8_mark 21 1 44 45 [] rfl rfl rfl rfl trivial ?_
  refine ds_callS (z := mt_X8_bit) (as := [.int t0, .int v1]) (rest := []) (show decode mt_X8_mark.2.1 45 = .ok (.invokestatic 123, 3) from ds_dec (i := (45, .invokestatic 123, 3, 0, 0, 395, .int 0)) ok_X8_mark 22 rfl) (ds_E.mono (sp_X8_bit t0 v1 σ ) (fun r σ1 hr => ?_)) ⟨zw_X8_bit.1, zw_X8_bit.2.1, zw_X8_bit.2.2, by decide, by decide⟩ (ds_wb_T (p := 395) (by decide +kernel)) zt_X8_bit (Nat.le_of_ble_eq_true rfl)
  obtain ⟨x9, rfl, e8, e9⟩ := hr
  rw [e8, e9]
  show ds_X mt_X8_mark Yc 48 [some (.ref 0), some (.int v1), some (.int v2), some (.int v3), g4] [.int (q_bit t0 v1)] σ Q
  refine ds_blk (ls2 := [some (.ref 0), some (.int v1), some (.int v2), some (.int v3), some (.int (q_bit t0 v1))]) (st2 := [.int v2]) (σ2 := σ) ok_X8_mark 23 2 48 51 [] rfl rfl rfl rfl trivial ?_
  refine ds_if_ne (show decode mt_X8_mark.2.1 51 = .ok (.ifCond .ne 25, 3) from ds_dec (i := (51, .ifCond .ne 25, 3, 0, 0, 0, .int 0)) ok_X8_mark 25 rfl) (t := 76) (by decide) (fun hc => ?_) (fun hc => ?_)
  · replace h := h.1 hc
    refine ds_blk (ls2 := [some (.ref 0), some (.int v1), some (.int v2), some (.int v3), some (.int (q_bit t0 v1))]) (st2 := [.int v3, .int v1, .int (σ.1 1 7), .ref 1]) (σ2 := σ) ok_X8_mark 36 7 76 89 [ds_k Yc 0 8, ds_k Yc 0 8, ds_k Yc 1 1] rfl rfl rfl rfl ⟨⟨by decide, rfl⟩, ⟨by decide, rfl⟩, ⟨by decide, rfl⟩, trivial⟩ ?_
    refine ds_callS (z := mt_X8_withBit) (as := [.int (σ.1 1 7), .int v1, .int v3]) (rest := [.ref 1]) (show decode mt_X8_mark.2.1 89 = .ok (.invokestatic 133, 3) from ds_dec (i := (89, .invokestatic 133, 3, 0, 0, 409, .int 0)) ok_X8_mark 43 rfl) (ds_E.mono (sp_X8_withBit (σ.1 1 7) v1 v3 σ ) (fun r σ2 hr => ?_)) ⟨zw_X8_withBit.1, zw_X8_withBit.2.1, zw_X8_withBit.2.2, by decide, by decide⟩ (ds_wb_T (p := 409) (by decide +kernel)) zt_X8_withBit (Nat.le_of_ble_eq_true rfl)
    obtain ⟨x9, rfl, e8, e9⟩ := hr
    rw [e8, e9]
    show ds_X mt_X8_mark Yc 92 [some (.ref 0), some (.int v1), some (.int v2), some (.int v3), some (.int (q_bit t0 v1))] [.int (q_wb (σ.1 1 7) v1 v3), .ref 1] σ Q
    refine ds_blk (ls2 := [some (.ref 0), some (.int v1), some (.int v2), some (.int v3), some (.int (q_bit t0 v1))]) (st2 := []) (σ2 := (ds_wi σ 1 7 (q_wb (σ.1 1 7) v1 v3))) ok_X8_mark 44 1 92 95 [ds_k Yc 1 1] rfl rfl rfl rfl ⟨⟨by decide, rfl⟩, trivial⟩ ?_
    refine x_X8_mark_95 (q_bit t0 v1) _ _ _ (ds_wi σ 1 7 (q_wb (σ.1 1 7) v1 v3)) Q h
  · replace h := h.2 hc
    refine ds_blk (ls2 := [some (.ref 0), some (.int v1), some (.int v2), some (.int v3), some (.int (q_bit t0 v1))]) (st2 := [.int v3, .int v1, .int (σ.1 1 6), .ref 1]) (σ2 := σ) ok_X8_mark 26 7 54 67 [ds_k Yc 0 8, ds_k Yc 0 8, ds_k Yc 1 1] rfl rfl rfl rfl ⟨⟨by decide, rfl⟩, ⟨by decide, rfl⟩, ⟨by decide, rfl⟩, trivial⟩ ?_
    refine ds_callS (z := mt_X8_withBit) (as := [.int (σ.1 1 6), .int v1, .int v3]) (rest := [.ref 1]) (show decode mt_X8_mark.2.1 67 = .ok (.invokestatic 133, 3) from ds_dec (i := (67, .invokestatic 133, 3, 0, 0, 409, .int 0)) ok_X8_mark 33 rfl) (ds_E.mono (sp_X8_withBit (σ.1 1 6) v1 v3 σ ) (fun r σ3 hr => ?_)) ⟨zw_X8_withBit.1, zw_X8_withBit.2.1, zw_X8_withBit.2.2, by decide, by decide⟩ (ds_wb_T (p := 409) (by decide +kernel)) zt_X8_withBit (Nat.le_of_ble_eq_true rfl)
    obtain ⟨x9, rfl, e8, e9⟩ := hr
    rw [e8, e9]
    show ds_X mt_X8_mark Yc 70 [some (.ref 0), some (.int v1), some (.int v2), some (.int v3), some (.int (q_bit t0 v1))] [.int (q_wb (σ.1 1 6) v1 v3), .ref 1] σ Q
    refine ds_blk (ls2 := [some (.ref 0), some (.int v1), some (.int v2), some (.int v3), some (.int (q_bit t0 v1))]) (st2 := []) (σ2 := (ds_wi σ 1 6 (q_wb (σ.1 1 6) v1 v3))) ok_X8_mark 34 1 70 73 [ds_k Yc 1 1] rfl rfl rfl rfl ⟨⟨by decide, rfl⟩, trivial⟩ ?_
    refine ds_goto (show decode mt_X8_mark.2.1 73 = .ok (.goto 22, 3) from ds_dec (i := (73, .goto 22, 3, 0, 0, 0, .int 0)) ok_X8_mark 35 rfl) (t := 95) (by decide) ?_
    refine x_X8_mark_95 (q_bit t0 v1) _ _ _ (ds_wi σ 1 6 (q_wb (σ.1 1 6) v1 v3)) Q h
def w_X8_mark (a1 : Int32) (a2 : Int32) (a3 : Int32) (σ : ds_S) (Q : Option Value → ds_S → Prop) : Prop := ((¬ (q_rng a1 0 (σ.1 1 1)) = 0 → ((¬ (q_rng a2 0 2) = 0 → ((¬ a2 = 0 → w_X8_mark_44 a1 a2 a3 (σ.1 1 7) σ Q) ∧ (a2 = 0 → w_X8_mark_44 a1 a2 a3 (σ.1 1 6) σ Q))) ∧ ((q_rng a2 0 2) = 0 → Q (some (.int (-2 : Int32))) σ))) ∧ ((q_rng a1 0 (σ.1 1 1)) = 0 → Q (some (.int (-1 : Int32))) σ))
theorem e_X8_mark (a1 : Int32) (a2 : Int32) (a3 : Int32) (σ : ds_S) (Q : Option Value → ds_S → Prop) (h : w_X8_mark a1 a2 a3 σ Q) : ds_E mt_X8_mark Yc [.ref 0, .int a1, .int a2, .int a3] σ Q := by
  refine ds_enter (by decide) (Nat.le_of_ble_eq_true rfl) ?_
  show ds_X mt_X8_mark Yc 0 [some (.ref 0), some (.int a1), some (.int a2), some (.int a3), none] [] σ Q
  unfold w_X8_mark at h
  refine ds_blk (ls2 := [some (.ref 0), some (.int a1), some (.int a2), some (.int a3), none]) (st2 := [.int a1, .ref 1]) (σ2 := σ) ok_X8_mark 0 3 0 5 [ds_k Yc 0 8] rfl rfl rfl rfl ⟨⟨by decide, rfl⟩, trivial⟩ ?_
  refine ds_callV (z := mt_X1_hasLine) (b := 1) (as := [.int a1]) (rest := []) (show decode mt_X8_mark.2.1 5 = .ok (.invokevirtual 105, 3) from ds_dec (i := (5, .invokevirtual 105, 3, 0, 0, 391, .int 0)) ok_X8_mark 3 rfl) (ds_E.mono (sp_X1_hasLine a1 σ ) (fun r σ1 hr => ?_)) ⟨zw_X1_hasLine.1, zw_X1_hasLine.2.1, zw_X1_hasLine.2.2, by decide, by decide⟩ (ds_wb_T (p := 391) (by decide +kernel)) zi_X1_hasLine zs_X1_hasLine (by decide) rfl ⟨_, rfl, rfl⟩ (Nat.le_of_ble_eq_true rfl)
  obtain ⟨x9, rfl, e8, e9⟩ := hr
  rw [e8, e9]
  show ds_X mt_X8_mark Yc 8 [some (.ref 0), some (.int a1), some (.int a2), some (.int a3), none] [.int (q_rng a1 0 (σ.1 1 1))] σ Q
  refine ds_if_ne (show decode mt_X8_mark.2.1 8 = .ok (.ifCond .ne 5, 3) from ds_dec (i := (8, .ifCond .ne 5, 3, 0, 0, 0, .int 0)) ok_X8_mark 4 rfl) (t := 13) (by decide) (fun hc => ?_) (fun hc => ?_)
  · replace h := h.1 hc
    refine ds_blk (ls2 := [some (.ref 0), some (.int a1), some (.int a2), some (.int a3), none]) (st2 := [.int a2]) (σ2 := σ) ok_X8_mark 7 1 13 14 [] rfl rfl rfl rfl trivial ?_
    refine ds_callS (z := mt_X8_isOneOfTwo) (as := [.int a2]) (rest := []) (show decode mt_X8_mark.2.1 14 = .ok (.invokestatic 130, 3) from ds_dec (i := (14, .invokestatic 130, 3, 0, 0, 406, .int 0)) ok_X8_mark 8 rfl) (ds_E.mono (sp_X8_isOneOfTwo a2 σ ) (fun r σ2 hr => ?_)) ⟨zw_X8_isOneOfTwo.1, zw_X8_isOneOfTwo.2.1, zw_X8_isOneOfTwo.2.2, by decide, by decide⟩ (ds_wb_T (p := 406) (by decide +kernel)) zt_X8_isOneOfTwo (Nat.le_of_ble_eq_true rfl)
    obtain ⟨x9, rfl, e8, e9⟩ := hr
    rw [e8, e9]
    show ds_X mt_X8_mark Yc 17 [some (.ref 0), some (.int a1), some (.int a2), some (.int a3), none] [.int (q_rng a2 0 2)] σ Q
    refine ds_if_ne (show decode mt_X8_mark.2.1 17 = .ok (.ifCond .ne 6, 3) from ds_dec (i := (17, .ifCond .ne 6, 3, 0, 0, 0, .int 0)) ok_X8_mark 9 rfl) (t := 23) (by decide) (fun hc => ?_) (fun hc => ?_)
    · replace h := h.1 hc
      refine ds_blk (ls2 := [some (.ref 0), some (.int a1), some (.int a2), some (.int a3), none]) (st2 := [.int a2]) (σ2 := σ) ok_X8_mark 12 1 23 24 [] rfl rfl rfl rfl trivial ?_
      refine ds_if_ne (show decode mt_X8_mark.2.1 24 = .ok (.ifCond .ne 13, 3) from ds_dec (i := (24, .ifCond .ne 13, 3, 0, 0, 0, .int 0)) ok_X8_mark 13 rfl) (t := 37) (by decide) (fun hc => ?_) (fun hc => ?_)
      · replace h := h.1 hc
        refine ds_blk (ls2 := [some (.ref 0), some (.int a1), some (.int a2), some (.int a3), none]) (st2 := [.int (σ.1 1 7)]) (σ2 := σ) ok_X8_mark 18 3 37 44 [ds_k Yc 0 8, ds_k Yc 1 1] rfl rfl rfl rfl ⟨⟨by decide, rfl⟩, ⟨by decide, rfl⟩, trivial⟩ ?_
        refine x_X8_mark_44 a1 a2 a3 (σ.1 1 7) _ σ Q h
      · replace h := h.2 hc
        refine ds_blk (ls2 := [some (.ref 0), some (.int a1), some (.int a2), some (.int a3), none]) (st2 := [.int (σ.1 1 6)]) (σ2 := σ) ok_X8_mark 14 3 27 34 [ds_k Yc 0 8, ds_k Yc 1 1] rfl rfl rfl rfl ⟨⟨by decide, rfl⟩, ⟨by decide, rfl⟩, trivial⟩ ?_
        refine ds_goto (show decode mt_X8_mark.2.1 34 = .ok (.goto 10, 3) from ds_dec (i := (34, .goto 10, 3, 0, 0, 0, .int 0)) ok_X8_mark 17 rfl) (t := 44) (by decide) ?_
        refine x_X8_mark_44 a1 a2 a3 (σ.1 1 6) _ σ Q h
    · replace h := h.2 hc
      refine ds_blk (ls2 := [some (.ref 0), some (.int a1), some (.int a2), some (.int a3), none]) (st2 := [.int (-2 : Int32)]) (σ2 := σ) ok_X8_mark 10 1 20 22 [] rfl rfl rfl rfl trivial ?_
      exact ds_iret (show decode mt_X8_mark.2.1 22 = .ok (.ireturn, 1) from ds_dec (i := (22, .ireturn, 1, 0, 0, 0, .int 0)) ok_X8_mark 11 rfl) rfl h
  · replace h := h.2 hc
    refine ds_blk (ls2 := [some (.ref 0), some (.int a1), some (.int a2), some (.int a3), none]) (st2 := [.int (-1 : Int32)]) (σ2 := σ) ok_X8_mark 5 1 11 12 [] rfl rfl rfl rfl trivial ?_
    exact ds_iret (show decode mt_X8_mark.2.1 12 = .ok (.ireturn, 1) from ds_dec (i := (12, .ireturn, 1, 0, 0, 0, .int 0)) ok_X8_mark 6 rfl) rfl h
def w_X8_load (a1 : Int32) (a2 : Int32) (a3 : Int32) (a4 : Int32) (σ : ds_S) (Q : Option Value → ds_S → Prop) : Prop := (((q_rng a1 0 3) = 0 → Q (some (.int (-1 : Int32))) σ) ∧ (¬ (q_rng a1 0 3) = 0 → ((¬ (q_pair a2 a3 (σ.1 1 0)) = 0 → ((a4 < 0 → Q (some (.int (-2 : Int32))) σ) ∧ (¬ a4 < 0 → ((a4 ≤ (50 : Int32) → vp_in a1 3 ∧ ds_k Yc (Yc.2.2.2 2 a1.toNatClampNeg) 10 ∧ vp_in ((a2 * (6 : Int32)) + a3) (Yc.2.2.1 (Yc.2.2.2 2 a1.toNatClampNeg)) ∧ vp_in a1 3 ∧ ds_k Yc (Yc.2.2.2 2 a1.toNatClampNeg) 10 ∧ vp_in ((a2 * (6 : Int32)) + a3) (Yc.2.2.1 (Yc.2.2.2 2 a1.toNatClampNeg)) ∧ ds_EV mt_X5_forget Yc [.ref 14] (ds_wi σ (Yc.2.2.2 2 a1.toNatClampNeg) (((a2 * (6 : Int32)) + a3).toNatClampNeg) a4) (fun σ5 => Q (some (.int (σ.1 (Yc.2.2.2 2 a1.toNatClampNeg) (((a2 * (6 : Int32)) + a3).toNatClampNeg)))) σ5)) ∧ (¬ a4 ≤ (50 : Int32) → Q (some (.int (-2 : Int32))) σ))))) ∧ ((q_pair a2 a3 (σ.1 1 0)) = 0 → Q (some (.int (-1 : Int32))) σ))))
theorem e_X8_load (a1 : Int32) (a2 : Int32) (a3 : Int32) (a4 : Int32) (σ : ds_S) (Q : Option Value → ds_S → Prop) (h : w_X8_load a1 a2 a3 a4 σ Q) : ds_E mt_X8_load Yc [.ref 0, .int a1, .int a2, .int a3, .int a4] σ Q := by
  refine ds_enter (by decide) (Nat.le_of_ble_eq_true rfl) ?_
  show ds_X mt_X8_load Yc 0 [some (.ref 0), some (.int a1), some (.int a2), some (.int a3), some (.int a4), none] [] σ Q
  unfold w_X8_load at h
  refine ds_blk (ls2 := [some (.ref 0), some (.int a1), some (.int a2), some (.int a3), some (.int a4), none]) (st2 := [.int a1]) (σ2 := σ) ok_X8_load 0 1 0 1 [] rfl rfl rfl rfl trivial ?_
  refine ds_callS (z := mt_X8_isTable) (as := [.int a1]) (rest := []) (show decode mt_X8_load.2.1 1 = .ok (.invokestatic 137, 3) from ds_dec (i := (1, .invokestatic 137, 3, 0, 0, 416, .int 0)) ok_X8_load 1 rfl) (ds_E.mono (sp_X8_isTable a1 σ ) (fun r σ1 hr => ?_)) ⟨zw_X8_isTable.1, zw_X8_isTable.2.1, zw_X8_isTable.2.2, by decide, by decide⟩ (ds_wb_T (p := 416) (by decide +kernel)) zt_X8_isTable (Nat.le_of_ble_eq_true rfl)
  obtain ⟨x9, rfl, e8, e9⟩ := hr
  rw [e8, e9]
  show ds_X mt_X8_load Yc 4 [some (.ref 0), some (.int a1), some (.int a2), some (.int a3), some (.int a4), none] [.int (q_rng a1 0 3)] σ Q
  refine ds_if_eq (show decode mt_X8_load.2.1 4 = .ok (.ifCond .eq 15, 3) from ds_dec (i := (4, .ifCond .eq 15, 3, 0, 0, 0, .int 0)) ok_X8_load 2 rfl) (t := 19) (by decide) (fun hc => ?_) (fun hc => ?_)
  · replace h := h.1 hc
    refine ds_blk (ls2 := [some (.ref 0), some (.int a1), some (.int a2), some (.int a3), some (.int a4), none]) (st2 := [.int (-1 : Int32)]) (σ2 := σ) ok_X8_load 9 1 19 20 [] rfl rfl rfl rfl trivial ?_
    exact ds_iret (show decode mt_X8_load.2.1 20 = .ok (.ireturn, 1) from ds_dec (i := (20, .ireturn, 1, 0, 0, 0, .int 0)) ok_X8_load 10 rfl) rfl h
  · replace h := h.2 hc
    refine ds_blk (ls2 := [some (.ref 0), some (.int a1), some (.int a2), some (.int a3), some (.int a4), none]) (st2 := [.int a3, .int a2, .ref 1]) (σ2 := σ) ok_X8_load 3 4 7 13 [ds_k Yc 0 8] rfl rfl rfl rfl ⟨⟨by decide, rfl⟩, trivial⟩ ?_
    refine ds_callV (z := mt_X1_arePair) (b := 1) (as := [.int a2, .int a3]) (rest := []) (show decode mt_X8_load.2.1 13 = .ok (.invokevirtual 90, 3) from ds_dec (i := (13, .invokevirtual 90, 3, 0, 0, 372, .int 0)) ok_X8_load 7 rfl) (ds_E.mono (sp_X1_arePair a2 a3 σ ) (fun r σ2 hr => ?_)) ⟨zw_X1_arePair.1, zw_X1_arePair.2.1, zw_X1_arePair.2.2, by decide, by decide⟩ (ds_wb_T (p := 372) (by decide +kernel)) zi_X1_arePair zs_X1_arePair (by decide) rfl ⟨_, rfl, rfl⟩ (Nat.le_of_ble_eq_true rfl)
    obtain ⟨x9, rfl, e8, e9⟩ := hr
    rw [e8, e9]
    show ds_X mt_X8_load Yc 16 [some (.ref 0), some (.int a1), some (.int a2), some (.int a3), some (.int a4), none] [.int (q_pair a2 a3 (σ.1 1 0))] σ Q
    refine ds_if_ne (show decode mt_X8_load.2.1 16 = .ok (.ifCond .ne 5, 3) from ds_dec (i := (16, .ifCond .ne 5, 3, 0, 0, 0, .int 0)) ok_X8_load 8 rfl) (t := 21) (by decide) (fun hc => ?_) (fun hc => ?_)
    · replace h := h.1 hc
      refine ds_blk (ls2 := [some (.ref 0), some (.int a1), some (.int a2), some (.int a3), some (.int a4), none]) (st2 := [.int a4]) (σ2 := σ) ok_X8_load 11 1 21 23 [] rfl rfl rfl rfl trivial ?_
      refine ds_if_lt (show decode mt_X8_load.2.1 23 = .ok (.ifCond .lt 10, 3) from ds_dec (i := (23, .ifCond .lt 10, 3, 0, 0, 0, .int 0)) ok_X8_load 12 rfl) (t := 33) (by decide) (fun hc => ?_) (fun hc => ?_)
      · replace h := h.1 hc
        refine ds_blk (ls2 := [some (.ref 0), some (.int a1), some (.int a2), some (.int a3), some (.int a4), none]) (st2 := [.int (-2 : Int32)]) (σ2 := σ) ok_X8_load 16 1 33 35 [] rfl rfl rfl rfl trivial ?_
        exact ds_iret (show decode mt_X8_load.2.1 35 = .ok (.ireturn, 1) from ds_dec (i := (35, .ireturn, 1, 0, 0, 0, .int 0)) ok_X8_load 17 rfl) rfl h
      · replace h := h.2 hc
        refine ds_blk (ls2 := [some (.ref 0), some (.int a1), some (.int a2), some (.int a3), some (.int a4), none]) (st2 := [.int (50 : Int32), .int a4]) (σ2 := σ) ok_X8_load 13 2 26 30 [] rfl rfl rfl rfl trivial ?_
        refine ds_ic_le (show decode mt_X8_load.2.1 30 = .ok (.if_icmp .le 6, 3) from ds_dec (i := (30, .if_icmp .le 6, 3, 0, 0, 0, .int 0)) ok_X8_load 15 rfl) (t := 36) (by decide) (fun hc => ?_) (fun hc => ?_)
        · replace h := h.1 hc
          obtain ⟨o1, h⟩ := h
          refine ds_blk (ls2 := [some (.ref 0), some (.int a1), some (.int a2), some (.int a3), some (.int a4), none]) (st2 := [.int a3, .int a2, .ref (Yc.2.2.2 2 a1.toNatClampNeg)]) (σ2 := σ) ok_X8_load 18 6 36 44 [ds_k Yc 0 8, ds_k Yc 2 14, vp_in a1 3] rfl rfl rfl rfl ⟨⟨by decide, rfl⟩, ⟨by decide, rfl⟩, o1, trivial⟩ ?_
          refine ds_callS (z := mt_X8_pair) (as := [.int a2, .int a3]) (rest := [.ref (Yc.2.2.2 2 a1.toNatClampNeg)]) (show decode mt_X8_load.2.1 44 = .ok (.invokestatic 140, 3) from ds_dec (i := (44, .invokestatic 140, 3, 0, 0, 419, .int 0)) ok_X8_load 24 rfl) (ds_E.mono (sp_X8_pair a2 a3 σ ) (fun r σ3 hr => ?_)) ⟨zw_X8_pair.1, zw_X8_pair.2.1, zw_X8_pair.2.2, by decide, by decide⟩ (ds_wb_T (p := 419) (by decide +kernel)) zt_X8_pair (Nat.le_of_ble_eq_true rfl)
          obtain ⟨x9, rfl, e8, e9⟩ := hr
          rw [e8, e9]
          show ds_X mt_X8_load Yc 47 [some (.ref 0), some (.int a1), some (.int a2), some (.int a3), some (.int a4), none] [.int ((a2 * (6 : Int32)) + a3), .ref (Yc.2.2.2 2 a1.toNatClampNeg)] σ Q
          obtain ⟨o2, o3, o4, h⟩ := h
          refine ds_blk (ls2 := [some (.ref 0), some (.int a1), some (.int a2), some (.int a3), some (.int a4), some (.int (σ.1 (Yc.2.2.2 2 a1.toNatClampNeg) (((a2 * (6 : Int32)) + a3).toNatClampNeg)))]) (st2 := [.int a3, .int a2, .ref (Yc.2.2.2 2 a1.toNatClampNeg)]) (σ2 := σ) ok_X8_load 25 8 47 58 [ds_k Yc (Yc.2.2.2 2 a1.toNatClampNeg) 10, vp_in ((a2 * (6 : Int32)) + a3) (Yc.2.2.1 (Yc.2.2.2 2 a1.toNatClampNeg)), ds_k Yc 0 8, ds_k Yc 2 14, vp_in a1 3] rfl rfl rfl rfl ⟨o2, o3, ⟨by decide, rfl⟩, ⟨by decide, rfl⟩, o4, trivial⟩ ?_
          refine ds_callS (z := mt_X8_pair) (as := [.int a2, .int a3]) (rest := [.ref (Yc.2.2.2 2 a1.toNatClampNeg)]) (show decode mt_X8_load.2.1 58 = .ok (.invokestatic 140, 3) from ds_dec (i := (58, .invokestatic 140, 3, 0, 0, 419, .int 0)) ok_X8_load 33 rfl) (ds_E.mono (sp_X8_pair a2 a3 σ ) (fun r σ4 hr => ?_)) ⟨zw_X8_pair.1, zw_X8_pair.2.1, zw_X8_pair.2.2, by decide, by decide⟩ (ds_wb_T (p := 419) (by decide +kernel)) zt_X8_pair (Nat.le_of_ble_eq_true rfl)
          obtain ⟨x9, rfl, e8, e9⟩ := hr
          rw [e8, e9]
          show ds_X mt_X8_load Yc 61 [some (.ref 0), some (.int a1), some (.int a2), some (.int a3), some (.int a4), some (.int (σ.1 (Yc.2.2.2 2 a1.toNatClampNeg) (((a2 * (6 : Int32)) + a3).toNatClampNeg)))] [.int ((a2 * (6 : Int32)) + a3), .ref (Yc.2.2.2 2 a1.toNatClampNeg)] σ Q
          obtain ⟨o5, o6, h⟩ := h
          refine ds_blk (ls2 := [some (.ref 0), some (.int a1), some (.int a2), some (.int a3), some (.int a4), some (.int (σ.1 (Yc.2.2.2 2 a1.toNatClampNeg) (((a2 * (6 : Int32)) + a3).toNatClampNeg)))]) (st2 := [.ref 14]) (σ2 := (ds_wi σ (Yc.2.2.2 2 a1.toNatClampNeg) (((a2 * (6 : Int32)) + a3).toNatClampNeg) a4)) ok_X8_load 34 4 61 68 [ds_k Yc (Yc.2.2.2 2 a1.toNatClampNeg) 10, vp_in ((a2 * (6 : Int32)) + a3) (Yc.2.2.1 (Yc.2.2.2 2 a1.toNatClampNeg)), ds_k Yc 0 8] rfl rfl rfl rfl ⟨o5, o6, ⟨by decide, rfl⟩, trivial⟩ ?_
          refine ds_callV (z := mt_X5_forget) (b := 14) (as := []) (rest := []) (show decode mt_X8_load.2.1 68 = .ok (.invokevirtual 87, 3) from ds_dec (i := (68, .invokevirtual 87, 3, 0, 0, 364, .int 0)) ok_X8_load 38 rfl) (ds_E.mono h (fun r σ5 hr => ?_)) ⟨zw_X5_forget.1, zw_X5_forget.2.1, zw_X5_forget.2.2, by decide, by decide⟩ (ds_wb_T (p := 364) (by decide +kernel)) zi_X5_forget zs_X5_forget (by decide) rfl ⟨_, rfl, rfl⟩ (Nat.le_of_ble_eq_true rfl)
          obtain ⟨rfl, h⟩ := hr
          show ds_X mt_X8_load Yc 71 [some (.ref 0), some (.int a1), some (.int a2), some (.int a3), some (.int a4), some (.int (σ.1 (Yc.2.2.2 2 a1.toNatClampNeg) (((a2 * (6 : Int32)) + a3).toNatClampNeg)))] [] σ5 Q
          refine ds_blk (ls2 := [some (.ref 0), some (.int a1), some (.int a2), some (.int a3), some (.int a4), some (.int (σ.1 (Yc.2.2.2 2 a1.toNatClampNeg) (((a2 * (6 : Int32)) + a3).toNatClampNeg)))]) (st2 := [.int (σ.1 (Yc.2.2.2 2 a1.toNatClampNeg) (((a2 * (6 : Int32)) + a3).toNatClampNeg))]) (σ2 := σ5) ok_X8_load 39 1 71 73 [] rfl rfl rfl rfl trivial ?_
          exact ds_iret (show decode mt_X8_load.2.1 73 = .ok (.ireturn, 1) from ds_dec (i := (73, .ireturn, 1, 0, 0, 0, .int 0)) ok_X8_load 40 rfl) rfl h
        · replace h := h.2 hc
          refine ds_blk (ls2 := [some (.ref 0), some (.int a1), some (.int a2), some (.int a3), some (.int a4), none]) (st2 := [.int (-2 : Int32)]) (σ2 := σ) ok_X8_load 16 1 33 35 [] rfl rfl rfl rfl trivial ?_
          exact ds_iret (show decode mt_X8_load.2.1 35 = .ok (.ireturn, 1) from ds_dec (i := (35, .ireturn, 1, 0, 0, 0, .int 0)) ok_X8_load 17 rfl) rfl h
    · replace h := h.2 hc
      refine ds_blk (ls2 := [some (.ref 0), some (.int a1), some (.int a2), some (.int a3), some (.int a4), none]) (st2 := [.int (-1 : Int32)]) (σ2 := σ) ok_X8_load 9 1 19 20 [] rfl rfl rfl rfl trivial ?_
      exact ds_iret (show decode mt_X8_load.2.1 20 = .ok (.ireturn, 1) from ds_dec (i := (20, .ireturn, 1, 0, 0, 0, .int 0)) ok_X8_load 10 rfl) rfl h
def w_X8_least (a1 : Int32) (a2 : Int32) (σ : ds_S) (Q : Option Value → ds_S → Prop) : Prop := (((q_rng a1 0 (σ.1 1 0)) = 0 → Q (some (.int (-1 : Int32))) σ) ∧ (¬ (q_rng a1 0 (σ.1 1 0)) = 0 → ((¬ (q_rng a2 0 (σ.1 1 0)) = 0 → ds_ER mt_X4_findOne Yc [.ref 6, .ref 1, .int a2] σ (fun r3 σ3 => ds_k Yc r3 7 ∧ ds_k Yc (Yc.2.2.2 r3 0) 10 ∧ vp_in a1 (Yc.2.2.1 (Yc.2.2.2 r3 0)) ∧ (((1000 : Int32) ≤ (σ3.1 (Yc.2.2.2 r3 0) a1.toNatClampNeg) → Q (some (.int (-6 : Int32))) σ3) ∧ (¬ (1000 : Int32) ≤ (σ3.1 (Yc.2.2.2 r3 0) a1.toNatClampNeg) → ds_k Yc r3 7 ∧ ds_k Yc (Yc.2.2.2 r3 0) 10 ∧ vp_in a1 (Yc.2.2.1 (Yc.2.2.2 r3 0)) ∧ Q (some (.int (σ3.1 (Yc.2.2.2 r3 0) a1.toNatClampNeg))) σ3)))) ∧ ((q_rng a2 0 (σ.1 1 0)) = 0 → Q (some (.int (-1 : Int32))) σ))))
theorem e_X8_least (a1 : Int32) (a2 : Int32) (σ : ds_S) (Q : Option Value → ds_S → Prop) (h : w_X8_least a1 a2 σ Q) : ds_E mt_X8_least Yc [.ref 0, .int a1, .int a2] σ Q := by
  refine ds_enter (by decide) (Nat.le_of_ble_eq_true rfl) ?_
  show ds_X mt_X8_least Yc 0 [some (.ref 0), some (.int a1), some (.int a2), none] [] σ Q
  unfold w_X8_least at h
  refine ds_blk (ls2 := [some (.ref 0), some (.int a1), some (.int a2), none]) (st2 := [.int a1, .ref 1]) (σ2 := σ) ok_X8_least 0 3 0 5 [ds_k Yc 0 8] rfl rfl rfl rfl ⟨⟨by decide, rfl⟩, trivial⟩ ?_
  refine ds_callV (z := mt_X1_hasBox) (b := 1) (as := [.int a1]) (rest := []) (show decode mt_X8_least.2.1 5 = .ok (.invokevirtual 143, 3) from ds_dec (i := (5, .invokevirtual 143, 3, 0, 0, 426, .int 0)) ok_X8_least 3 rfl) (ds_E.mono (sp_X1_hasBox a1 σ ) (fun r σ1 hr => ?_)) ⟨zw_X1_hasBox.1, zw_X1_hasBox.2.1, zw_X1_hasBox.2.2, by decide, by decide⟩ (ds_wb_T (p := 426) (by decide +kernel)) zi_X1_hasBox zs_X1_hasBox (by decide) rfl ⟨_, rfl, rfl⟩ (Nat.le_of_ble_eq_true rfl)
  obtain ⟨x9, rfl, e8, e9⟩ := hr
  rw [e8, e9]
  show ds_X mt_X8_least Yc 8 [some (.ref 0), some (.int a1), some (.int a2), none] [.int (q_rng a1 0 (σ.1 1 0))] σ Q
  refine ds_if_eq (show decode mt_X8_least.2.1 8 = .ok (.ifCond .eq 14, 3) from ds_dec (i := (8, .ifCond .eq 14, 3, 0, 0, 0, .int 0)) ok_X8_least 4 rfl) (t := 22) (by decide) (fun hc => ?_) (fun hc => ?_)
  · replace h := h.1 hc
    refine ds_blk (ls2 := [some (.ref 0), some (.int a1), some (.int a2), none]) (st2 := [.int (-1 : Int32)]) (σ2 := σ) ok_X8_least 10 1 22 23 [] rfl rfl rfl rfl trivial ?_
    exact ds_iret (show decode mt_X8_least.2.1 23 = .ok (.ireturn, 1) from ds_dec (i := (23, .ireturn, 1, 0, 0, 0, .int 0)) ok_X8_least 11 rfl) rfl h
  · replace h := h.2 hc
    refine ds_blk (ls2 := [some (.ref 0), some (.int a1), some (.int a2), none]) (st2 := [.int a2, .ref 1]) (σ2 := σ) ok_X8_least 5 3 11 16 [ds_k Yc 0 8] rfl rfl rfl rfl ⟨⟨by decide, rfl⟩, trivial⟩ ?_
    refine ds_callV (z := mt_X1_hasBox) (b := 1) (as := [.int a2]) (rest := []) (show decode mt_X8_least.2.1 16 = .ok (.invokevirtual 143, 3) from ds_dec (i := (16, .invokevirtual 143, 3, 0, 0, 426, .int 0)) ok_X8_least 8 rfl) (ds_E.mono (sp_X1_hasBox a2 σ ) (fun r σ2 hr => ?_)) ⟨zw_X1_hasBox.1, zw_X1_hasBox.2.1, zw_X1_hasBox.2.2, by decide, by decide⟩ (ds_wb_T (p := 426) (by decide +kernel)) zi_X1_hasBox zs_X1_hasBox (by decide) rfl ⟨_, rfl, rfl⟩ (Nat.le_of_ble_eq_true rfl)
    obtain ⟨x9, rfl, e8, e9⟩ := hr
    rw [e8, e9]
    show ds_X mt_X8_least Yc 19 [some (.ref 0), some (.int a1), some (.int a2), none] [.int (q_rng a2 0 (σ.1 1 0))] σ Q
    refine ds_if_ne (show decode mt_X8_least.2.1 19 = .ok (.ifCond .ne 5, 3) from ds_dec (i := (19, .ifCond .ne 5, 3, 0, 0, 0, .int 0)) ok_X8_least 9 rfl) (t := 24) (by decide) (fun hc => ?_) (fun hc => ?_)
    · replace h := h.1 hc
      refine ds_blk (ls2 := [some (.ref 0), some (.int a1), some (.int a2), none]) (st2 := [.int a2, .ref 1, .ref 6]) (σ2 := σ) ok_X8_least 12 5 24 33 [ds_k Yc 0 8, ds_k Yc 0 8] rfl rfl rfl rfl ⟨⟨by decide, rfl⟩, ⟨by decide, rfl⟩, trivial⟩ ?_
      refine ds_callV (z := mt_X4_findOne) (b := 6) (as := [.ref 1, .int a2]) (rest := []) (show decode mt_X8_least.2.1 33 = .ok (.invokevirtual 146, 3) from ds_dec (i := (33, .invokevirtual 146, 3, 0, 0, 427, .int 0)) ok_X8_least 17 rfl) (ds_E.mono h (fun r σ3 hr => ?_)) ⟨zw_X4_findOne.1, zw_X4_findOne.2.1, zw_X4_findOne.2.2, by decide, by decide⟩ (ds_wb_T (p := 427) (by decide +kernel)) zi_X4_findOne zs_X4_findOne (by decide) rfl ⟨_, rfl, rfl⟩ (Nat.le_of_ble_eq_true rfl)
      obtain ⟨r3, rfl, h⟩ := hr
      show ds_X mt_X8_least Yc 36 [some (.ref 0), some (.int a1), some (.int a2), none] [.ref r3] σ3 Q
      obtain ⟨o1, o2, o3, h⟩ := h
      refine ds_blk (ls2 := [some (.ref 0), some (.int a1), some (.int a2), some (.ref r3)]) (st2 := [.int (1000 : Int32), .int (σ3.1 (Yc.2.2.2 r3 0) a1.toNatClampNeg)]) (σ2 := σ3) ok_X8_least 18 6 36 46 [ds_k Yc r3 7, ds_k Yc (Yc.2.2.2 r3 0) 10, vp_in a1 (Yc.2.2.1 (Yc.2.2.2 r3 0))] rfl rfl rfl rfl ⟨o1, o2, o3, trivial⟩ ?_
      refine ds_ic_ge (show decode mt_X8_least.2.1 46 = .ok (.if_icmp .ge 12, 3) from ds_dec (i := (46, .if_icmp .ge 12, 3, 0, 0, 0, .int 0)) ok_X8_least 24 rfl) (t := 58) (by decide) (fun hc => ?_) (fun hc => ?_)
      · replace h := h.1 hc
        refine ds_blk (ls2 := [some (.ref 0), some (.int a1), some (.int a2), some (.ref r3)]) (st2 := [.int (-6 : Int32)]) (σ2 := σ3) ok_X8_least 30 1 58 60 [] rfl rfl rfl rfl trivial ?_
        exact ds_iret (show decode mt_X8_least.2.1 60 = .ok (.ireturn, 1) from ds_dec (i := (60, .ireturn, 1, 0, 0, 0, .int 0)) ok_X8_least 31 rfl) rfl h
      · replace h := h.2 hc
        obtain ⟨o4, o5, o6, h⟩ := h
        refine ds_blk (ls2 := [some (.ref 0), some (.int a1), some (.int a2), some (.ref r3)]) (st2 := [.int (σ3.1 (Yc.2.2.2 r3 0) a1.toNatClampNeg)]) (σ2 := σ3) ok_X8_least 25 4 49 55 [ds_k Yc r3 7, ds_k Yc (Yc.2.2.2 r3 0) 10, vp_in a1 (Yc.2.2.1 (Yc.2.2.2 r3 0))] rfl rfl rfl rfl ⟨o4, o5, o6, trivial⟩ ?_
        refine ds_goto (show decode mt_X8_least.2.1 55 = .ok (.goto 5, 3) from ds_dec (i := (55, .goto 5, 3, 0, 0, 0, .int 0)) ok_X8_least 29 rfl) (t := 60) (by decide) ?_
        exact ds_iret (show decode mt_X8_least.2.1 60 = .ok (.ireturn, 1) from ds_dec (i := (60, .ireturn, 1, 0, 0, 0, .int 0)) ok_X8_least 31 rfl) rfl h
    · replace h := h.2 hc
      refine ds_blk (ls2 := [some (.ref 0), some (.int a1), some (.int a2), none]) (st2 := [.int (-1 : Int32)]) (σ2 := σ) ok_X8_least 10 1 22 23 [] rfl rfl rfl rfl trivial ?_
      exact ds_iret (show decode mt_X8_least.2.1 23 = .ok (.ireturn, 1) from ds_dec (i := (23, .ireturn, 1, 0, 0, 0, .int 0)) ok_X8_least 11 rfl) rfl h
def w_X8_next_43 : Nat → (v1 : Int32) → (v3 : Nat) → (v4 : Int32) → (v5 : Int32) → (σ : ds_S) → (Q : Option Value → ds_S → Prop) → Prop
  | 0, _, _, _, _, _, _ => False
  | f + 1, v1, v3, v4, v5, σ, Q => (((σ.1 1 1) ≤ v5 → Q (some (.int v4)) σ) ∧ (¬ (σ.1 1 1) ≤ v5 → ds_k Yc v3 7 ∧ ds_k Yc (Yc.2.2.2 v3 4) 10 ∧ vp_in v5 (Yc.2.2.1 (Yc.2.2.2 v3 4)) ∧ ((¬ (σ.1 (Yc.2.2.2 v3 4) v5.toNatClampNeg) = v1 → w_X8_next_43 f v1 v3 v4 (v5 + (1 : Int32)) σ Q) ∧ ((σ.1 (Yc.2.2.2 v3 4) v5.toNatClampNeg) = v1 → w_X8_next_43 f v1 v3 (v4 ||| ((1 : Int32) <<< (v5 &&& 31))) (v5 + (1 : Int32)) σ Q))))
theorem x_X8_next_43 : ∀ (f : Nat) (v1 : Int32) (v3 : Nat) (v4 : Int32) (v5 : Int32) (g2 : Option Value) (σ : ds_S) (Q : Option Value → ds_S → Prop), w_X8_next_43 f v1 v3 v4 v5 σ Q → ds_X mt_X8_next Yc 43 [some (.ref 0), some (.int v1), g2, some (.ref v3), some (.int v4), some (.int v5)] [] σ Q := by
  intro f
  induction f with
  | zero => intro v1 v3 v4 v5 g2 σ Q h; exact False.elim h
  | succ f ih =>
    intro v1 v3 v4 v5 g2 σ Q h
    rw [w_X8_next_43] at h
    refine ds_blk (ls2 := [some (.ref 0), some (.int v1), g2, some (.ref v3), some (.int v4), some (.int v5)]) (st2 := [.int (σ.1 1 1), .int v5]) (σ2 := σ) ok_X8_next 23 4 43 52 [ds_k Yc 0 8, ds_k Yc 1 1] rfl rfl rfl rfl ⟨⟨by decide, rfl⟩, ⟨by decide, rfl⟩, trivial⟩ ?_
    refine ds_ic_ge (show decode mt_X8_next.2.1 52 = .ok (.if_icmp .ge 29, 3) from ds_dec (i := (52, .if_icmp .ge 29, 3, 0, 0, 0, .int 0)) ok_X8_next 27 rfl) (t := 81) (by decide) (fun hc => ?_) (fun hc => ?_)
    · replace h := h.1 hc
      refine ds_blk (ls2 := [some (.ref 0), some (.int v1), g2, some (.ref v3), some (.int v4), some (.int v5)]) (st2 := [.int v4]) (σ2 := σ) ok_X8_next 42 1 81 83 [] rfl rfl rfl rfl trivial ?_
      exact ds_iret (show decode mt_X8_next.2.1 83 = .ok (.ireturn, 1) from ds_dec (i := (83, .ireturn, 1, 0, 0, 0, .int 0)) ok_X8_next 43 rfl) rfl h
    · replace h := h.2 hc
      obtain ⟨o1, o2, o3, h⟩ := h
      refine ds_blk (ls2 := [some (.ref 0), some (.int v1), g2, some (.ref v3), some (.int v4), some (.int v5)]) (st2 := [.int v1, .int (σ.1 (Yc.2.2.2 v3 4) v5.toNatClampNeg)]) (σ2 := σ) ok_X8_next 28 5 55 63 [ds_k Yc v3 7, ds_k Yc (Yc.2.2.2 v3 4) 10, vp_in v5 (Yc.2.2.1 (Yc.2.2.2 v3 4))] rfl rfl rfl rfl ⟨o1, o2, o3, trivial⟩ ?_
      refine ds_ic_ne (show decode mt_X8_next.2.1 63 = .ok (.if_icmp .ne 12, 3) from ds_dec (i := (63, .if_icmp .ne 12, 3, 0, 0, 0, .int 0)) ok_X8_next 33 rfl) (t := 75) (by decide) (fun hc => ?_) (fun hc => ?_)
      · replace h := h.1 hc
        refine ds_blk (ls2 := [some (.ref 0), some (.int v1), g2, some (.ref v3), some (.int v4), some (.int (v5 + (1 : Int32)))]) (st2 := []) (σ2 := σ) ok_X8_next 40 1 75 78 [] rfl rfl rfl rfl trivial ?_
        refine ds_goto (show decode mt_X8_next.2.1 78 = .ok (.goto (-35), 3) from ds_dec (i := (78, .goto (-35), 3, 0, 0, 0, .int 0)) ok_X8_next 41 rfl) (t := 43) (by decide) ?_
        exact ih v1 v3 v4 (v5 + (1 : Int32)) _ σ Q h
      · replace h := h.2 hc
        refine ds_blk (ls2 := [some (.ref 0), some (.int v1), g2, some (.ref v3), some (.int (v4 ||| ((1 : Int32) <<< (v5 &&& 31)))), some (.int (v5 + (1 : Int32)))]) (st2 := []) (σ2 := σ) ok_X8_next 34 7 66 78 [] rfl rfl rfl rfl trivial ?_
        refine ds_goto (show decode mt_X8_next.2.1 78 = .ok (.goto (-35), 3) from ds_dec (i := (78, .goto (-35), 3, 0, 0, 0, .int 0)) ok_X8_next 41 rfl) (t := 43) (by decide) ?_
        exact ih v1 v3 (v4 ||| ((1 : Int32) <<< (v5 &&& 31))) (v5 + (1 : Int32)) _ σ Q h
def w_X8_next (a1 : Int32) (a2 : Int32) (σ : ds_S) (Q : Option Value → ds_S → Prop) : Prop := (((q_rng a1 0 (σ.1 1 0)) = 0 → Q (some (.int (-1 : Int32))) σ) ∧ (¬ (q_rng a1 0 (σ.1 1 0)) = 0 → ((¬ (q_rng a2 0 (σ.1 1 0)) = 0 → ds_ER mt_X4_findOne Yc [.ref 6, .ref 1, .int a2] σ (fun r3 σ3 => ∃ n, w_X8_next_43 n a1 r3 (0 : Int32) (0 : Int32) σ3 Q)) ∧ ((q_rng a2 0 (σ.1 1 0)) = 0 → Q (some (.int (-1 : Int32))) σ))))
theorem e_X8_next (a1 : Int32) (a2 : Int32) (σ : ds_S) (Q : Option Value → ds_S → Prop) (h : w_X8_next a1 a2 σ Q) : ds_E mt_X8_next Yc [.ref 0, .int a1, .int a2] σ Q := by
  refine ds_enter (by decide) (Nat.le_of_ble_eq_true rfl) ?_
  show ds_X mt_X8_next Yc 0 [some (.ref 0), some (.int a1), some (.int a2), none, none, none] [] σ Q
  unfold w_X8_next at h
  refine ds_blk (ls2 := [some (.ref 0), some (.int a1), some (.int a2), none, none, none]) (st2 := [.int a1, .ref 1]) (σ2 := σ) ok_X8_next 0 3 0 5 [ds_k Yc 0 8] rfl rfl rfl rfl ⟨⟨by decide, rfl⟩, trivial⟩ ?_
  refine ds_callV (z := mt_X1_hasBox) (b := 1) (as := [.int a1]) (rest := []) (show decode mt_X8_next.2.1 5 = .ok (.invokevirtual 143, 3) from ds_dec (i := (5, .invokevirtual 143, 3, 0, 0, 426, .int 0)) ok_X8_next 3 rfl) (ds_E.mono (sp_X1_hasBox a1 σ ) (fun r σ1 hr => ?_)) ⟨zw_X1_hasBox.1, zw_X1_hasBox.2.1, zw_X1_hasBox.2.2, by decide, by decide⟩ (ds_wb_T (p := 426) (by decide +kernel)) zi_X1_hasBox zs_X1_hasBox (by decide) rfl ⟨_, rfl, rfl⟩ (Nat.le_of_ble_eq_true rfl)
  obtain ⟨x9, rfl, e8, e9⟩ := hr
  rw [e8, e9]
  show ds_X mt_X8_next Yc 8 [some (.ref 0), some (.int a1), some (.int a2), none, none, none] [.int (q_rng a1 0 (σ.1 1 0))] σ Q
  refine ds_if_eq (show decode mt_X8_next.2.1 8 = .ok (.ifCond .eq 14, 3) from ds_dec (i := (8, .ifCond .eq 14, 3, 0, 0, 0, .int 0)) ok_X8_next 4 rfl) (t := 22) (by decide) (fun hc => ?_) (fun hc => ?_)
  · replace h := h.1 hc
    refine ds_blk (ls2 := [some (.ref 0), some (.int a1), some (.int a2), none, none, none]) (st2 := [.int (-1 : Int32)]) (σ2 := σ) ok_X8_next 10 1 22 23 [] rfl rfl rfl rfl trivial ?_
    exact ds_iret (show decode mt_X8_next.2.1 23 = .ok (.ireturn, 1) from ds_dec (i := (23, .ireturn, 1, 0, 0, 0, .int 0)) ok_X8_next 11 rfl) rfl h
  · replace h := h.2 hc
    refine ds_blk (ls2 := [some (.ref 0), some (.int a1), some (.int a2), none, none, none]) (st2 := [.int a2, .ref 1]) (σ2 := σ) ok_X8_next 5 3 11 16 [ds_k Yc 0 8] rfl rfl rfl rfl ⟨⟨by decide, rfl⟩, trivial⟩ ?_
    refine ds_callV (z := mt_X1_hasBox) (b := 1) (as := [.int a2]) (rest := []) (show decode mt_X8_next.2.1 16 = .ok (.invokevirtual 143, 3) from ds_dec (i := (16, .invokevirtual 143, 3, 0, 0, 426, .int 0)) ok_X8_next 8 rfl) (ds_E.mono (sp_X1_hasBox a2 σ ) (fun r σ2 hr => ?_)) ⟨zw_X1_hasBox.1, zw_X1_hasBox.2.1, zw_X1_hasBox.2.2, by decide, by decide⟩ (ds_wb_T (p := 426) (by decide +kernel)) zi_X1_hasBox zs_X1_hasBox (by decide) rfl ⟨_, rfl, rfl⟩ (Nat.le_of_ble_eq_true rfl)
    obtain ⟨x9, rfl, e8, e9⟩ := hr
    rw [e8, e9]
    show ds_X mt_X8_next Yc 19 [some (.ref 0), some (.int a1), some (.int a2), none, none, none] [.int (q_rng a2 0 (σ.1 1 0))] σ Q
    refine ds_if_ne (show decode mt_X8_next.2.1 19 = .ok (.ifCond .ne 5, 3) from ds_dec (i := (19, .ifCond .ne 5, 3, 0, 0, 0, .int 0)) ok_X8_next 9 rfl) (t := 24) (by decide) (fun hc => ?_) (fun hc => ?_)
    · replace h := h.1 hc
      refine ds_blk (ls2 := [some (.ref 0), some (.int a1), some (.int a2), none, none, none]) (st2 := [.int a2, .ref 1, .ref 6]) (σ2 := σ) ok_X8_next 12 5 24 33 [ds_k Yc 0 8, ds_k Yc 0 8] rfl rfl rfl rfl ⟨⟨by decide, rfl⟩, ⟨by decide, rfl⟩, trivial⟩ ?_
      refine ds_callV (z := mt_X4_findOne) (b := 6) (as := [.ref 1, .int a2]) (rest := []) (show decode mt_X8_next.2.1 33 = .ok (.invokevirtual 146, 3) from ds_dec (i := (33, .invokevirtual 146, 3, 0, 0, 427, .int 0)) ok_X8_next 17 rfl) (ds_E.mono h (fun r σ3 hr => ?_)) ⟨zw_X4_findOne.1, zw_X4_findOne.2.1, zw_X4_findOne.2.2, by decide, by decide⟩ (ds_wb_T (p := 427) (by decide +kernel)) zi_X4_findOne zs_X4_findOne (by decide) rfl ⟨_, rfl, rfl⟩ (Nat.le_of_ble_eq_true rfl)
      obtain ⟨r3, rfl, h⟩ := hr
      show ds_X mt_X8_next Yc 36 [some (.ref 0), some (.int a1), some (.int a2), none, none, none] [.ref r3] σ3 Q
      refine ds_blk (ls2 := [some (.ref 0), some (.int a1), some (.int a2), some (.ref r3), some (.int (0 : Int32)), some (.int (0 : Int32))]) (st2 := []) (σ2 := σ3) ok_X8_next 18 5 36 43 [] rfl rfl rfl rfl trivial ?_
      obtain ⟨n, h⟩ := h
      refine x_X8_next_43 n a1 r3 (0 : Int32) (0 : Int32) _ σ3 Q h
    · replace h := h.2 hc
      refine ds_blk (ls2 := [some (.ref 0), some (.int a1), some (.int a2), none, none, none]) (st2 := [.int (-1 : Int32)]) (σ2 := σ) ok_X8_next 10 1 22 23 [] rfl rfl rfl rfl trivial ?_
      exact ds_iret (show decode mt_X8_next.2.1 23 = .ok (.ireturn, 1) from ds_dec (i := (23, .ireturn, 1, 0, 0, 0, .int 0)) ok_X8_next 11 rfl) rfl h
def w_X8_share (a1 : Int32) (a2 : Int32) (a3 : Int32) (a4 : Int32) (a5 : Int32) (σ : ds_S) (Q : Option Value → ds_S → Prop) : Prop := (((q_rng a1 0 (σ.1 1 0)) = 0 → Q (some (.long (-1000000000000000001 : Int64))) σ) ∧ (¬ (q_rng a1 0 (σ.1 1 0)) = 0 → (((q_rng a2 0 (σ.1 1 0)) = 0 → Q (some (.long (-1000000000000000001 : Int64))) σ) ∧ (¬ (q_rng a2 0 (σ.1 1 0)) = 0 → ((¬ (q_rng a3 0 (σ.1 1 1)) = 0 → (((q_rng a4 0 2) = 0 → Q (some (.long (-1000000000000000002 : Int64))) σ) ∧ (¬ (q_rng a4 0 2) = 0 → ((¬ (q_rng a5 0 2) = 0 → ds_ER mt_X4_findOne Yc [.ref 6, .ref 1, .int a2] σ (fun r6 σ6 => ds_EV mt_X0_sendOne Yc [.ref 8, .ref 1, .ref r6, .int a1] σ6 (fun σ7 => vp_in (((2 : Int32) * a3) + a4) 20 ∧ 0 ≤ (σ7.2 10 ((((2 : Int32) * a3) + a4).toNatClampNeg)) ∧ Q (some (.long (q_low0 (σ7.2 10 ((((2 : Int32) * a3) + a4).toNatClampNeg)) (151200 : Int64) a5))) σ7))) ∧ ((q_rng a5 0 2) = 0 → Q (some (.long (-1000000000000000002 : Int64))) σ))))) ∧ ((q_rng a3 0 (σ.1 1 1)) = 0 → Q (some (.long (-1000000000000000001 : Int64))) σ))))))
theorem e_X8_share (a1 : Int32) (a2 : Int32) (a3 : Int32) (a4 : Int32) (a5 : Int32) (σ : ds_S) (Q : Option Value → ds_S → Prop) (h : w_X8_share a1 a2 a3 a4 a5 σ Q) : ds_E mt_X8_share Yc [.ref 0, .int a1, .int a2, .int a3, .int a4, .int a5] σ Q := by
  refine ds_enter (by decide) (Nat.le_of_ble_eq_true rfl) ?_
  show ds_X mt_X8_share Yc 0 [some (.ref 0), some (.int a1), some (.int a2), some (.int a3), some (.int a4), some (.int a5)] [] σ Q
  unfold w_X8_share at h
  refine ds_blk (ls2 := [some (.ref 0), some (.int a1), some (.int a2), some (.int a3), some (.int a4), some (.int a5)]) (st2 := [.int a1, .ref 1]) (σ2 := σ) ok_X8_share 0 3 0 5 [ds_k Yc 0 8] rfl rfl rfl rfl ⟨⟨by decide, rfl⟩, trivial⟩ ?_
  refine ds_callV (z := mt_X1_hasBox) (b := 1) (as := [.int a1]) (rest := []) (show decode mt_X8_share.2.1 5 = .ok (.invokevirtual 143, 3) from ds_dec (i := (5, .invokevirtual 143, 3, 0, 0, 426, .int 0)) ok_X8_share 3 rfl) (ds_E.mono (sp_X1_hasBox a1 σ ) (fun r σ1 hr => ?_)) ⟨zw_X1_hasBox.1, zw_X1_hasBox.2.1, zw_X1_hasBox.2.2, by decide, by decide⟩ (ds_wb_T (p := 426) (by decide +kernel)) zi_X1_hasBox zs_X1_hasBox (by decide) rfl ⟨_, rfl, rfl⟩ (Nat.le_of_ble_eq_true rfl)
  obtain ⟨x9, rfl, e8, e9⟩ := hr
  rw [e8, e9]
  show ds_X mt_X8_share Yc 8 [some (.ref 0), some (.int a1), some (.int a2), some (.int a3), some (.int a4), some (.int a5)] [.int (q_rng a1 0 (σ.1 1 0))] σ Q
  refine ds_if_eq (show decode mt_X8_share.2.1 8 = .ok (.ifCond .eq 25, 3) from ds_dec (i := (8, .ifCond .eq 25, 3, 0, 0, 0, .int 0)) ok_X8_share 4 rfl) (t := 33) (by decide) (fun hc => ?_) (fun hc => ?_)
  · replace h := h.1 hc
    refine ds_blk (ls2 := [some (.ref 0), some (.int a1), some (.int a2), some (.int a3), some (.int a4), some (.int a5)]) (st2 := [.long (-1000000000000000001 : Int64)]) (σ2 := σ) ok_X8_share 15 1 33 36 [] rfl rfl rfl rfl trivial ?_
    exact ds_lret (show decode mt_X8_share.2.1 36 = .ok (.lreturn, 1) from ds_dec (i := (36, .lreturn, 1, 0, 0, 0, .int 0)) ok_X8_share 16 rfl) rfl h
  · replace h := h.2 hc
    refine ds_blk (ls2 := [some (.ref 0), some (.int a1), some (.int a2), some (.int a3), some (.int a4), some (.int a5)]) (st2 := [.int a2, .ref 1]) (σ2 := σ) ok_X8_share 5 3 11 16 [ds_k Yc 0 8] rfl rfl rfl rfl ⟨⟨by decide, rfl⟩, trivial⟩ ?_
    refine ds_callV (z := mt_X1_hasBox) (b := 1) (as := [.int a2]) (rest := []) (show decode mt_X8_share.2.1 16 = .ok (.invokevirtual 143, 3) from ds_dec (i := (16, .invokevirtual 143, 3, 0, 0, 426, .int 0)) ok_X8_share 8 rfl) (ds_E.mono (sp_X1_hasBox a2 σ ) (fun r σ2 hr => ?_)) ⟨zw_X1_hasBox.1, zw_X1_hasBox.2.1, zw_X1_hasBox.2.2, by decide, by decide⟩ (ds_wb_T (p := 426) (by decide +kernel)) zi_X1_hasBox zs_X1_hasBox (by decide) rfl ⟨_, rfl, rfl⟩ (Nat.le_of_ble_eq_true rfl)
    obtain ⟨x9, rfl, e8, e9⟩ := hr
    rw [e8, e9]
    show ds_X mt_X8_share Yc 19 [some (.ref 0), some (.int a1), some (.int a2), some (.int a3), some (.int a4), some (.int a5)] [.int (q_rng a2 0 (σ.1 1 0))] σ Q
    refine ds_if_eq (show decode mt_X8_share.2.1 19 = .ok (.ifCond .eq 14, 3) from ds_dec (i := (19, .ifCond .eq 14, 3, 0, 0, 0, .int 0)) ok_X8_share 9 rfl) (t := 33) (by decide) (fun hc => ?_) (fun hc => ?_)
    · replace h := h.1 hc
      refine ds_blk (ls2 := [some (.ref 0), some (.int a1), some (.int a2), some (.int a3), some (.int a4), some (.int a5)]) (st2 := [.long (-1000000000000000001 : Int64)]) (σ2 := σ) ok_X8_share 15 1 33 36 [] rfl rfl rfl rfl trivial ?_
      exact ds_lret (show decode mt_X8_share.2.1 36 = .ok (.lreturn, 1) from ds_dec (i := (36, .lreturn, 1, 0, 0, 0, .int 0)) ok_X8_share 16 rfl) rfl h
    · replace h := h.2 hc
      refine ds_blk (ls2 := [some (.ref 0), some (.int a1), some (.int a2), some (.int a3), some (.int a4), some (.int a5)]) (st2 := [.int a3, .ref 1]) (σ2 := σ) ok_X8_share 10 3 22 27 [ds_k Yc 0 8] rfl rfl rfl rfl ⟨⟨by decide, rfl⟩, trivial⟩ ?_
      refine ds_callV (z := mt_X1_hasLine) (b := 1) (as := [.int a3]) (rest := []) (show decode mt_X8_share.2.1 27 = .ok (.invokevirtual 105, 3) from ds_dec (i := (27, .invokevirtual 105, 3, 0, 0, 391, .int 0)) ok_X8_share 13 rfl) (ds_E.mono (sp_X1_hasLine a3 σ ) (fun r σ3 hr => ?_)) ⟨zw_X1_hasLine.1, zw_X1_hasLine.2.1, zw_X1_hasLine.2.2, by decide, by decide⟩ (ds_wb_T (p := 391) (by decide +kernel)) zi_X1_hasLine zs_X1_hasLine (by decide) rfl ⟨_, rfl, rfl⟩ (Nat.le_of_ble_eq_true rfl)
      obtain ⟨x9, rfl, e8, e9⟩ := hr
      rw [e8, e9]
      show ds_X mt_X8_share Yc 30 [some (.ref 0), some (.int a1), some (.int a2), some (.int a3), some (.int a4), some (.int a5)] [.int (q_rng a3 0 (σ.1 1 1))] σ Q
      refine ds_if_ne (show decode mt_X8_share.2.1 30 = .ok (.ifCond .ne 7, 3) from ds_dec (i := (30, .ifCond .ne 7, 3, 0, 0, 0, .int 0)) ok_X8_share 14 rfl) (t := 37) (by decide) (fun hc => ?_) (fun hc => ?_)
      · replace h := h.1 hc
        refine ds_blk (ls2 := [some (.ref 0), some (.int a1), some (.int a2), some (.int a3), some (.int a4), some (.int a5)]) (st2 := [.int a4]) (σ2 := σ) ok_X8_share 17 1 37 39 [] rfl rfl rfl rfl trivial ?_
        refine ds_callS (z := mt_X8_isOneOfTwo) (as := [.int a4]) (rest := []) (show decode mt_X8_share.2.1 39 = .ok (.invokestatic 130, 3) from ds_dec (i := (39, .invokestatic 130, 3, 0, 0, 406, .int 0)) ok_X8_share 18 rfl) (ds_E.mono (sp_X8_isOneOfTwo a4 σ ) (fun r σ4 hr => ?_)) ⟨zw_X8_isOneOfTwo.1, zw_X8_isOneOfTwo.2.1, zw_X8_isOneOfTwo.2.2, by decide, by decide⟩ (ds_wb_T (p := 406) (by decide +kernel)) zt_X8_isOneOfTwo (Nat.le_of_ble_eq_true rfl)
        obtain ⟨x9, rfl, e8, e9⟩ := hr
        rw [e8, e9]
        show ds_X mt_X8_share Yc 42 [some (.ref 0), some (.int a1), some (.int a2), some (.int a3), some (.int a4), some (.int a5)] [.int (q_rng a4 0 2)] σ Q
        refine ds_if_eq (show decode mt_X8_share.2.1 42 = .ok (.ifCond .eq 11, 3) from ds_dec (i := (42, .ifCond .eq 11, 3, 0, 0, 0, .int 0)) ok_X8_share 19 rfl) (t := 53) (by decide) (fun hc => ?_) (fun hc => ?_)
        · replace h := h.1 hc
          refine ds_blk (ls2 := [some (.ref 0), some (.int a1), some (.int a2), some (.int a3), some (.int a4), some (.int a5)]) (st2 := [.long (-1000000000000000002 : Int64)]) (σ2 := σ) ok_X8_share 23 1 53 56 [] rfl rfl rfl rfl trivial ?_
          exact ds_lret (show decode mt_X8_share.2.1 56 = .ok (.lreturn, 1) from ds_dec (i := (56, .lreturn, 1, 0, 0, 0, .int 0)) ok_X8_share 24 rfl) rfl h
        · replace h := h.2 hc
          refine ds_blk (ls2 := [some (.ref 0), some (.int a1), some (.int a2), some (.int a3), some (.int a4), some (.int a5)]) (st2 := [.int a5]) (σ2 := σ) ok_X8_share 20 1 45 47 [] rfl rfl rfl rfl trivial ?_
          refine ds_callS (z := mt_X8_isOneOfTwo) (as := [.int a5]) (rest := []) (show decode mt_X8_share.2.1 47 = .ok (.invokestatic 130, 3) from ds_dec (i := (47, .invokestatic 130, 3, 0, 0, 406, .int 0)) ok_X8_share 21 rfl) (ds_E.mono (sp_X8_isOneOfTwo a5 σ ) (fun r σ5 hr => ?_)) ⟨zw_X8_isOneOfTwo.1, zw_X8_isOneOfTwo.2.1, zw_X8_isOneOfTwo.2.2, by decide, by decide⟩ (ds_wb_T (p := 406) (by decide +kernel)) zt_X8_isOneOfTwo (Nat.le_of_ble_eq_true rfl)
          obtain ⟨x9, rfl, e8, e9⟩ := hr
          rw [e8, e9]
          show ds_X mt_X8_share Yc 50 [some (.ref 0), some (.int a1), some (.int a2), some (.int a3), some (.int a4), some (.int a5)] [.int (q_rng a5 0 2)] σ Q
          refine ds_if_ne (show decode mt_X8_share.2.1 50 = .ok (.ifCond .ne 7, 3) from ds_dec (i := (50, .ifCond .ne 7, 3, 0, 0, 0, .int 0)) ok_X8_share 22 rfl) (t := 57) (by decide) (fun hc => ?_) (fun hc => ?_)
          · replace h := h.1 hc
            refine ds_blk (ls2 := [some (.ref 0), some (.int a1), some (.int a2), some (.int a3), some (.int a4), some (.int a5)]) (st2 := [.int a2, .ref 1, .ref 6, .ref 1, .ref 8]) (σ2 := σ) ok_X8_share 25 9 57 74 [ds_k Yc 0 8, ds_k Yc 0 8, ds_k Yc 0 8, ds_k Yc 0 8] rfl rfl rfl rfl ⟨⟨by decide, rfl⟩, ⟨by decide, rfl⟩, ⟨by decide, rfl⟩, ⟨by decide, rfl⟩, trivial⟩ ?_
            refine ds_callV (z := mt_X4_findOne) (b := 6) (as := [.ref 1, .int a2]) (rest := [.ref 1, .ref 8]) (show decode mt_X8_share.2.1 74 = .ok (.invokevirtual 146, 3) from ds_dec (i := (74, .invokevirtual 146, 3, 0, 0, 427, .int 0)) ok_X8_share 34 rfl) (ds_E.mono h (fun r σ6 hr => ?_)) ⟨zw_X4_findOne.1, zw_X4_findOne.2.1, zw_X4_findOne.2.2, by decide, by decide⟩ (ds_wb_T (p := 427) (by decide +kernel)) zi_X4_findOne zs_X4_findOne (by decide) rfl ⟨_, rfl, rfl⟩ (Nat.le_of_ble_eq_true rfl)
            obtain ⟨r6, rfl, h⟩ := hr
            show ds_X mt_X8_share Yc 77 [some (.ref 0), some (.int a1), some (.int a2), some (.int a3), some (.int a4), some (.int a5)] [.ref r6, .ref 1, .ref 8] σ6 Q
            refine ds_blk (ls2 := [some (.ref 0), some (.int a1), some (.int a2), some (.int a3), some (.int a4), some (.int a5)]) (st2 := [.int a1, .ref r6, .ref 1, .ref 8]) (σ2 := σ6) ok_X8_share 35 1 77 78 [] rfl rfl rfl rfl trivial ?_
            refine ds_callV (z := mt_X0_sendOne) (b := 8) (as := [.ref 1, .ref r6, .int a1]) (rest := []) (show decode mt_X8_share.2.1 78 = .ok (.invokevirtual 162, 3) from ds_dec (i := (78, .invokevirtual 162, 3, 0, 0, 462, .int 0)) ok_X8_share 36 rfl) (ds_E.mono h (fun r σ7 hr => ?_)) ⟨zw_X0_sendOne.1, zw_X0_sendOne.2.1, zw_X0_sendOne.2.2, by decide, by decide⟩ (ds_wb_T (p := 462) (by decide +kernel)) zi_X0_sendOne zs_X0_sendOne (by decide) rfl ⟨_, rfl, rfl⟩ (Nat.le_of_ble_eq_true rfl)
            obtain ⟨rfl, h⟩ := hr
            show ds_X mt_X8_share Yc 81 [some (.ref 0), some (.int a1), some (.int a2), some (.int a3), some (.int a4), some (.int a5)] [] σ7 Q
            refine ds_blk (ls2 := [some (.ref 0), some (.int a1), some (.int a2), some (.int a3), some (.int a4), some (.int a5)]) (st2 := [.int a4, .int a3, .ref 10]) (σ2 := σ7) ok_X8_share 37 5 81 91 [ds_k Yc 0 8, ds_k Yc 8 0] rfl rfl rfl rfl ⟨⟨by decide, rfl⟩, ⟨by decide, rfl⟩, trivial⟩ ?_
            refine ds_callS (z := mt_X8_slot) (as := [.int a3, .int a4]) (rest := [.ref 10]) (show decode mt_X8_share.2.1 91 = .ok (.invokestatic 170, 3) from ds_dec (i := (91, .invokestatic 170, 3, 0, 0, 478, .int 0)) ok_X8_share 42 rfl) (ds_E.mono (sp_X8_slot a3 a4 σ7 ) (fun r σ8 hr => ?_)) ⟨zw_X8_slot.1, zw_X8_slot.2.1, zw_X8_slot.2.2, by decide, by decide⟩ (ds_wb_T (p := 478) (by decide +kernel)) zt_X8_slot (Nat.le_of_ble_eq_true rfl)
            obtain ⟨x9, rfl, e8, e9⟩ := hr
            rw [e8, e9]
            show ds_X mt_X8_share Yc 94 [some (.ref 0), some (.int a1), some (.int a2), some (.int a3), some (.int a4), some (.int a5)] [.int (((2 : Int32) * a3) + a4), .ref 10] σ7 Q
            obtain ⟨o1, h⟩ := h
            refine ds_blk (ls2 := [some (.ref 0), some (.int a1), some (.int a2), some (.int a3), some (.int a4), some (.int a5)]) (st2 := [.int a5, .long (151200 : Int64), .long (σ7.2 10 ((((2 : Int32) * a3) + a4).toNatClampNeg))]) (σ2 := σ7) ok_X8_share 43 3 94 100 [ds_k Yc 10 11, vp_in (((2 : Int32) * a3) + a4) 20] rfl rfl rfl rfl ⟨⟨by decide, rfl⟩, o1, trivial⟩ ?_
            obtain ⟨o2, h⟩ := h
            refine ds_callS (z := mt_X8_fraction) (as := [.long (σ7.2 10 ((((2 : Int32) * a3) + a4).toNatClampNeg)), .long (151200 : Int64), .int a5]) (rest := []) (show decode mt_X8_share.2.1 100 = .ok (.invokestatic 175, 3) from ds_dec (i := (100, .invokestatic 175, 3, 0, 0, 482, .int 0)) ok_X8_share 46 rfl) (ds_E.mono (sp_X8_fraction (σ7.2 10 ((((2 : Int32) * a3) + a4).toNatClampNeg)) (151200 : Int64) a5 σ7 o2 (by decide) (by decide)) (fun r σ9 hr => ?_)) ⟨zw_X8_fraction.1, zw_X8_fraction.2.1, zw_X8_fraction.2.2, by decide, by decide⟩ (ds_wb_T (p := 482) (by decide +kernel)) zt_X8_fraction (Nat.le_of_ble_eq_true rfl)
            obtain ⟨x9, rfl, e8, e9⟩ := hr
            rw [e8, e9]
            show ds_X mt_X8_share Yc 103 [some (.ref 0), some (.int a1), some (.int a2), some (.int a3), some (.int a4), some (.int a5)] [.long (q_low0 (σ7.2 10 ((((2 : Int32) * a3) + a4).toNatClampNeg)) (151200 : Int64) a5)] σ7 Q
            exact ds_lret (show decode mt_X8_share.2.1 103 = .ok (.lreturn, 1) from ds_dec (i := (103, .lreturn, 1, 0, 0, 0, .int 0)) ok_X8_share 47 rfl) rfl h
          · replace h := h.2 hc
            refine ds_blk (ls2 := [some (.ref 0), some (.int a1), some (.int a2), some (.int a3), some (.int a4), some (.int a5)]) (st2 := [.long (-1000000000000000002 : Int64)]) (σ2 := σ) ok_X8_share 23 1 53 56 [] rfl rfl rfl rfl trivial ?_
            exact ds_lret (show decode mt_X8_share.2.1 56 = .ok (.lreturn, 1) from ds_dec (i := (56, .lreturn, 1, 0, 0, 0, .int 0)) ok_X8_share 24 rfl) rfl h
      · replace h := h.2 hc
        refine ds_blk (ls2 := [some (.ref 0), some (.int a1), some (.int a2), some (.int a3), some (.int a4), some (.int a5)]) (st2 := [.long (-1000000000000000001 : Int64)]) (σ2 := σ) ok_X8_share 15 1 33 36 [] rfl rfl rfl rfl trivial ?_
        exact ds_lret (show decode mt_X8_share.2.1 36 = .ok (.lreturn, 1) from ds_dec (i := (36, .lreturn, 1, 0, 0, 0, .int 0)) ok_X8_share 16 rfl) rfl h
def w_X8_on (a1 : Int32) (a2 : Int32) (a3 : Int32) (a4 : Int32) (σ : ds_S) (Q : Option Value → ds_S → Prop) : Prop := (((q_rng a1 0 3) = 0 → Q (some (.long (-1000000000000000001 : Int64))) σ) ∧ (¬ (q_rng a1 0 3) = 0 → ((¬ (q_rng a2 0 (σ.1 1 1)) = 0 → (((q_rng a3 0 2) = 0 → Q (some (.long (-1000000000000000002 : Int64))) σ) ∧ (¬ (q_rng a3 0 2) = 0 → ((¬ (q_rng a4 0 2) = 0 → ds_EV mt_X4_findAll Yc [.ref 6, .ref 1, .int (-1 : Int32)] σ (fun σ5 => vp_in a1 3 ∧ ds_EV mt_X0_sendTable Yc [.ref 8, .ref 1, .ref 6, .ref (Yc.2.2.2 2 a1.toNatClampNeg)] σ5 (fun σ6 => vp_in (((2 : Int32) * a2) + a3) 20 ∧ 0 ≤ (σ6.2 10 ((((2 : Int32) * a2) + a3).toNatClampNeg)) ∧ Q (some (.long (q_low0 (σ6.2 10 ((((2 : Int32) * a2) + a3).toNatClampNeg)) (151200 : Int64) a4))) σ6))) ∧ ((q_rng a4 0 2) = 0 → Q (some (.long (-1000000000000000002 : Int64))) σ))))) ∧ ((q_rng a2 0 (σ.1 1 1)) = 0 → Q (some (.long (-1000000000000000001 : Int64))) σ))))
theorem e_X8_on (a1 : Int32) (a2 : Int32) (a3 : Int32) (a4 : Int32) (σ : ds_S) (Q : Option Value → ds_S → Prop) (h : w_X8_on a1 a2 a3 a4 σ Q) : ds_E mt_X8_on Yc [.ref 0, .int a1, .int a2, .int a3, .int a4] σ Q := by
  refine ds_enter (by decide) (Nat.le_of_ble_eq_true rfl) ?_
  show ds_X mt_X8_on Yc 0 [some (.ref 0), some (.int a1), some (.int a2), some (.int a3), some (.int a4)] [] σ Q
  unfold w_X8_on at h
  refine ds_blk (ls2 := [some (.ref 0), some (.int a1), some (.int a2), some (.int a3), some (.int a4)]) (st2 := [.int a1]) (σ2 := σ) ok_X8_on 0 1 0 1 [] rfl rfl rfl rfl trivial ?_
  refine ds_callS (z := mt_X8_isTable) (as := [.int a1]) (rest := []) (show decode mt_X8_on.2.1 1 = .ok (.invokestatic 137, 3) from ds_dec (i := (1, .invokestatic 137, 3, 0, 0, 416, .int 0)) ok_X8_on 1 rfl) (ds_E.mono (sp_X8_isTable a1 σ ) (fun r σ1 hr => ?_)) ⟨zw_X8_isTable.1, zw_X8_isTable.2.1, zw_X8_isTable.2.2, by decide, by decide⟩ (ds_wb_T (p := 416) (by decide +kernel)) zt_X8_isTable (Nat.le_of_ble_eq_true rfl)
  obtain ⟨x9, rfl, e8, e9⟩ := hr
  rw [e8, e9]
  show ds_X mt_X8_on Yc 4 [some (.ref 0), some (.int a1), some (.int a2), some (.int a3), some (.int a4)] [.int (q_rng a1 0 3)] σ Q
  refine ds_if_eq (show decode mt_X8_on.2.1 4 = .ok (.ifCond .eq 14, 3) from ds_dec (i := (4, .ifCond .eq 14, 3, 0, 0, 0, .int 0)) ok_X8_on 2 rfl) (t := 18) (by decide) (fun hc => ?_) (fun hc => ?_)
  · replace h := h.1 hc
    refine ds_blk (ls2 := [some (.ref 0), some (.int a1), some (.int a2), some (.int a3), some (.int a4)]) (st2 := [.long (-1000000000000000001 : Int64)]) (σ2 := σ) ok_X8_on 8 1 18 21 [] rfl rfl rfl rfl trivial ?_
    exact ds_lret (show decode mt_X8_on.2.1 21 = .ok (.lreturn, 1) from ds_dec (i := (21, .lreturn, 1, 0, 0, 0, .int 0)) ok_X8_on 9 rfl) rfl h
  · replace h := h.2 hc
    refine ds_blk (ls2 := [some (.ref 0), some (.int a1), some (.int a2), some (.int a3), some (.int a4)]) (st2 := [.int a2, .ref 1]) (σ2 := σ) ok_X8_on 3 3 7 12 [ds_k Yc 0 8] rfl rfl rfl rfl ⟨⟨by decide, rfl⟩, trivial⟩ ?_
    refine ds_callV (z := mt_X1_hasLine) (b := 1) (as := [.int a2]) (rest := []) (show decode mt_X8_on.2.1 12 = .ok (.invokevirtual 105, 3) from ds_dec (i := (12, .invokevirtual 105, 3, 0, 0, 391, .int 0)) ok_X8_on 6 rfl) (ds_E.mono (sp_X1_hasLine a2 σ ) (fun r σ2 hr => ?_)) ⟨zw_X1_hasLine.1, zw_X1_hasLine.2.1, zw_X1_hasLine.2.2, by decide, by decide⟩ (ds_wb_T (p := 391) (by decide +kernel)) zi_X1_hasLine zs_X1_hasLine (by decide) rfl ⟨_, rfl, rfl⟩ (Nat.le_of_ble_eq_true rfl)
    obtain ⟨x9, rfl, e8, e9⟩ := hr
    rw [e8, e9]
    show ds_X mt_X8_on Yc 15 [some (.ref 0), some (.int a1), some (.int a2), some (.int a3), some (.int a4)] [.int (q_rng a2 0 (σ.1 1 1))] σ Q
    refine ds_if_ne (show decode mt_X8_on.2.1 15 = .ok (.ifCond .ne 7, 3) from ds_dec (i := (15, .ifCond .ne 7, 3, 0, 0, 0, .int 0)) ok_X8_on 7 rfl) (t := 22) (by decide) (fun hc => ?_) (fun hc => ?_)
    · replace h := h.1 hc
      refine ds_blk (ls2 := [some (.ref 0), some (.int a1), some (.int a2), some (.int a3), some (.int a4)]) (st2 := [.int a3]) (σ2 := σ) ok_X8_on 10 1 22 23 [] rfl rfl rfl rfl trivial ?_
      refine ds_callS (z := mt_X8_isOneOfTwo) (as := [.int a3]) (rest := []) (show decode mt_X8_on.2.1 23 = .ok (.invokestatic 130, 3) from ds_dec (i := (23, .invokestatic 130, 3, 0, 0, 406, .int 0)) ok_X8_on 11 rfl) (ds_E.mono (sp_X8_isOneOfTwo a3 σ ) (fun r σ3 hr => ?_)) ⟨zw_X8_isOneOfTwo.1, zw_X8_isOneOfTwo.2.1, zw_X8_isOneOfTwo.2.2, by decide, by decide⟩ (ds_wb_T (p := 406) (by decide +kernel)) zt_X8_isOneOfTwo (Nat.le_of_ble_eq_true rfl)
      obtain ⟨x9, rfl, e8, e9⟩ := hr
      rw [e8, e9]
      show ds_X mt_X8_on Yc 26 [some (.ref 0), some (.int a1), some (.int a2), some (.int a3), some (.int a4)] [.int (q_rng a3 0 2)] σ Q
      refine ds_if_eq (show decode mt_X8_on.2.1 26 = .ok (.ifCond .eq 11, 3) from ds_dec (i := (26, .ifCond .eq 11, 3, 0, 0, 0, .int 0)) ok_X8_on 12 rfl) (t := 37) (by decide) (fun hc => ?_) (fun hc => ?_)
      · replace h := h.1 hc
        refine ds_blk (ls2 := [some (.ref 0), some (.int a1), some (.int a2), some (.int a3), some (.int a4)]) (st2 := [.long (-1000000000000000002 : Int64)]) (σ2 := σ) ok_X8_on 16 1 37 40 [] rfl rfl rfl rfl trivial ?_
        exact ds_lret (show decode mt_X8_on.2.1 40 = .ok (.lreturn, 1) from ds_dec (i := (40, .lreturn, 1, 0, 0, 0, .int 0)) ok_X8_on 17 rfl) rfl h
      · replace h := h.2 hc
        refine ds_blk (ls2 := [some (.ref 0), some (.int a1), some (.int a2), some (.int a3), some (.int a4)]) (st2 := [.int a4]) (σ2 := σ) ok_X8_on 13 1 29 31 [] rfl rfl rfl rfl trivial ?_
        refine ds_callS (z := mt_X8_isOneOfTwo) (as := [.int a4]) (rest := []) (show decode mt_X8_on.2.1 31 = .ok (.invokestatic 130, 3) from ds_dec (i := (31, .invokestatic 130, 3, 0, 0, 406, .int 0)) ok_X8_on 14 rfl) (ds_E.mono (sp_X8_isOneOfTwo a4 σ ) (fun r σ4 hr => ?_)) ⟨zw_X8_isOneOfTwo.1, zw_X8_isOneOfTwo.2.1, zw_X8_isOneOfTwo.2.2, by decide, by decide⟩ (ds_wb_T (p := 406) (by decide +kernel)) zt_X8_isOneOfTwo (Nat.le_of_ble_eq_true rfl)
        obtain ⟨x9, rfl, e8, e9⟩ := hr
        rw [e8, e9]
        show ds_X mt_X8_on Yc 34 [some (.ref 0), some (.int a1), some (.int a2), some (.int a3), some (.int a4)] [.int (q_rng a4 0 2)] σ Q
        refine ds_if_ne (show decode mt_X8_on.2.1 34 = .ok (.ifCond .ne 7, 3) from ds_dec (i := (34, .ifCond .ne 7, 3, 0, 0, 0, .int 0)) ok_X8_on 15 rfl) (t := 41) (by decide) (fun hc => ?_) (fun hc => ?_)
        · replace h := h.1 hc
          refine ds_blk (ls2 := [some (.ref 0), some (.int a1), some (.int a2), some (.int a3), some (.int a4)]) (st2 := [.int (-1 : Int32), .ref 1, .ref 6]) (σ2 := σ) ok_X8_on 18 5 41 50 [ds_k Yc 0 8, ds_k Yc 0 8] rfl rfl rfl rfl ⟨⟨by decide, rfl⟩, ⟨by decide, rfl⟩, trivial⟩ ?_
          refine ds_callV (z := mt_X4_findAll) (b := 6) (as := [.ref 1, .int (-1 : Int32)]) (rest := []) (show decode mt_X8_on.2.1 50 = .ok (.invokevirtual 179, 3) from ds_dec (i := (50, .invokevirtual 179, 3, 0, 0, 492, .int 0)) ok_X8_on 23 rfl) (ds_E.mono h (fun r σ5 hr => ?_)) ⟨zw_X4_findAll.1, zw_X4_findAll.2.1, zw_X4_findAll.2.2, by decide, by decide⟩ (ds_wb_T (p := 492) (by decide +kernel)) zi_X4_findAll zs_X4_findAll (by decide) rfl ⟨_, rfl, rfl⟩ (Nat.le_of_ble_eq_true rfl)
          obtain ⟨rfl, h⟩ := hr
          show ds_X mt_X8_on Yc 53 [some (.ref 0), some (.int a1), some (.int a2), some (.int a3), some (.int a4)] [] σ5 Q
          obtain ⟨o1, h⟩ := h
          refine ds_blk (ls2 := [some (.ref 0), some (.int a1), some (.int a2), some (.int a3), some (.int a4)]) (st2 := [.ref (Yc.2.2.2 2 a1.toNatClampNeg), .ref 6, .ref 1, .ref 8]) (σ2 := σ5) ok_X8_on 24 10 53 71 [ds_k Yc 0 8, ds_k Yc 0 8, ds_k Yc 0 8, ds_k Yc 0 8, ds_k Yc 2 14, vp_in a1 3] rfl rfl rfl rfl ⟨⟨by decide, rfl⟩, ⟨by decide, rfl⟩, ⟨by decide, rfl⟩, ⟨by decide, rfl⟩, ⟨by decide, rfl⟩, o1, trivial⟩ ?_
          refine ds_callV (z := mt_X0_sendTable) (b := 8) (as := [.ref 1, .ref 6, .ref (Yc.2.2.2 2 a1.toNatClampNeg)]) (rest := []) (show decode mt_X8_on.2.1 71 = .ok (.invokevirtual 183, 3) from ds_dec (i := (71, .invokevirtual 183, 3, 0, 0, 501, .int 0)) ok_X8_on 34 rfl) (ds_E.mono h (fun r σ6 hr => ?_)) ⟨zw_X0_sendTable.1, zw_X0_sendTable.2.1, zw_X0_sendTable.2.2, by decide, by decide⟩ (ds_wb_T (p := 501) (by decide +kernel)) zi_X0_sendTable zs_X0_sendTable (by decide) rfl ⟨_, rfl, rfl⟩ (Nat.le_of_ble_eq_true rfl)
          obtain ⟨rfl, h⟩ := hr
          show ds_X mt_X8_on Yc 74 [some (.ref 0), some (.int a1), some (.int a2), some (.int a3), some (.int a4)] [] σ6 Q
          refine ds_blk (ls2 := [some (.ref 0), some (.int a1), some (.int a2), some (.int a3), some (.int a4)]) (st2 := [.int a3, .int a2, .ref 10]) (σ2 := σ6) ok_X8_on 35 5 74 83 [ds_k Yc 0 8, ds_k Yc 8 0] rfl rfl rfl rfl ⟨⟨by decide, rfl⟩, ⟨by decide, rfl⟩, trivial⟩ ?_
          refine ds_callS (z := mt_X8_slot) (as := [.int a2, .int a3]) (rest := [.ref 10]) (show decode mt_X8_on.2.1 83 = .ok (.invokestatic 170, 3) from ds_dec (i := (83, .invokestatic 170, 3, 0, 0, 478, .int 0)) ok_X8_on 40 rfl) (ds_E.mono (sp_X8_slot a2 a3 σ6 ) (fun r σ7 hr => ?_)) ⟨zw_X8_slot.1, zw_X8_slot.2.1, zw_X8_slot.2.2, by decide, by decide⟩ (ds_wb_T (p := 478) (by decide +kernel)) zt_X8_slot (Nat.le_of_ble_eq_true rfl)
          obtain ⟨x9, rfl, e8, e9⟩ := hr
          rw [e8, e9]
          show ds_X mt_X8_on Yc 86 [some (.ref 0), some (.int a1), some (.int a2), some (.int a3), some (.int a4)] [.int (((2 : Int32) * a2) + a3), .ref 10] σ6 Q
          obtain ⟨o2, h⟩ := h
          refine ds_blk (ls2 := [some (.ref 0), some (.int a1), some (.int a2), some (.int a3), some (.int a4)]) (st2 := [.int a4, .long (151200 : Int64), .long (σ6.2 10 ((((2 : Int32) * a2) + a3).toNatClampNeg))]) (σ2 := σ6) ok_X8_on 41 3 86 92 [ds_k Yc 10 11, vp_in (((2 : Int32) * a2) + a3) 20] rfl rfl rfl rfl ⟨⟨by decide, rfl⟩, o2, trivial⟩ ?_
          obtain ⟨o3, h⟩ := h
          refine ds_callS (z := mt_X8_fraction) (as := [.long (σ6.2 10 ((((2 : Int32) * a2) + a3).toNatClampNeg)), .long (151200 : Int64), .int a4]) (rest := []) (show decode mt_X8_on.2.1 92 = .ok (.invokestatic 175, 3) from ds_dec (i := (92, .invokestatic 175, 3, 0, 0, 482, .int 0)) ok_X8_on 44 rfl) (ds_E.mono (sp_X8_fraction (σ6.2 10 ((((2 : Int32) * a2) + a3).toNatClampNeg)) (151200 : Int64) a4 σ6 o3 (by decide) (by decide)) (fun r σ8 hr => ?_)) ⟨zw_X8_fraction.1, zw_X8_fraction.2.1, zw_X8_fraction.2.2, by decide, by decide⟩ (ds_wb_T (p := 482) (by decide +kernel)) zt_X8_fraction (Nat.le_of_ble_eq_true rfl)
          obtain ⟨x9, rfl, e8, e9⟩ := hr
          rw [e8, e9]
          show ds_X mt_X8_on Yc 95 [some (.ref 0), some (.int a1), some (.int a2), some (.int a3), some (.int a4)] [.long (q_low0 (σ6.2 10 ((((2 : Int32) * a2) + a3).toNatClampNeg)) (151200 : Int64) a4)] σ6 Q
          exact ds_lret (show decode mt_X8_on.2.1 95 = .ok (.lreturn, 1) from ds_dec (i := (95, .lreturn, 1, 0, 0, 0, .int 0)) ok_X8_on 45 rfl) rfl h
        · replace h := h.2 hc
          refine ds_blk (ls2 := [some (.ref 0), some (.int a1), some (.int a2), some (.int a3), some (.int a4)]) (st2 := [.long (-1000000000000000002 : Int64)]) (σ2 := σ) ok_X8_on 16 1 37 40 [] rfl rfl rfl rfl trivial ?_
          exact ds_lret (show decode mt_X8_on.2.1 40 = .ok (.lreturn, 1) from ds_dec (i := (40, .lreturn, 1, 0, 0, 0, .int 0)) ok_X8_on 17 rfl) rfl h
    · replace h := h.2 hc
      refine ds_blk (ls2 := [some (.ref 0), some (.int a1), some (.int a2), some (.int a3), some (.int a4)]) (st2 := [.long (-1000000000000000001 : Int64)]) (σ2 := σ) ok_X8_on 8 1 18 21 [] rfl rfl rfl rfl trivial ?_
      exact ds_lret (show decode mt_X8_on.2.1 21 = .ok (.lreturn, 1) from ds_dec (i := (21, .lreturn, 1, 0, 0, 0, .int 0)) ok_X8_on 9 rfl) rfl h
def w_X8_worst (a1 : Int32) (a2 : Int32) (σ : ds_S) (Q : Option Value → ds_S → Prop) : Prop := ((¬ (q_rng a1 0 3) = 0 → ((a2 < 0 → Q (some (.long (-1000000000000000002 : Int64))) σ) ∧ (¬ a2 < 0 → ((a2 ≤ (3 : Int32) → ds_EV mt_X8_findPeak Yc [.ref 0, .int a1] σ (fun σ2 => ((¬ a2 = (2 : Int32) → ((¬ a2 = (3 : Int32) → 0 ≤ (σ2.2 11 0) ∧ 0 ≤ ((151200 : Int64) * (σ2.1 11 1).toInt64) ∧ ((151200 : Int64) * (σ2.1 11 1).toInt64) < 562949953421312 ∧ Q (some (.long (q_low0 (σ2.2 11 0) ((151200 : Int64) * (σ2.1 11 1).toInt64) a2))) σ2) ∧ (a2 = (3 : Int32) → Q (some (.long ((σ2.1 11 3).toInt64))) σ2))) ∧ (a2 = (2 : Int32) → Q (some (.long ((σ2.1 11 2).toInt64))) σ2)))) ∧ (¬ a2 ≤ (3 : Int32) → Q (some (.long (-1000000000000000002 : Int64))) σ))))) ∧ ((q_rng a1 0 3) = 0 → Q (some (.long (-1000000000000000001 : Int64))) σ))
theorem e_X8_worst (a1 : Int32) (a2 : Int32) (σ : ds_S) (Q : Option Value → ds_S → Prop) (h : w_X8_worst a1 a2 σ Q) : ds_E mt_X8_worst Yc [.ref 0, .int a1, .int a2] σ Q := by
  refine ds_enter (by decide) (Nat.le_of_ble_eq_true rfl) ?_
  show ds_X mt_X8_worst Yc 0 [some (.ref 0), some (.int a1), some (.int a2)] [] σ Q
  unfold w_X8_worst at h
  refine ds_blk (ls2 := [some (.ref 0), some (.int a1), some (.int a2)]) (st2 := [.int a1]) (σ2 := σ) ok_X8_worst 0 1 0 1 [] rfl rfl rfl rfl trivial ?_
  refine ds_callS (z := mt_X8_isTable) (as := [.int a1]) (rest := []) (show decode mt_X8_worst.2.1 1 = .ok (.invokestatic 137, 3) from ds_dec (i := (1, .invokestatic 137, 3, 0, 0, 416, .int 0)) ok_X8_worst 1 rfl) (ds_E.mono (sp_X8_isTable a1 σ ) (fun r σ1 hr => ?_)) ⟨zw_X8_isTable.1, zw_X8_isTable.2.1, zw_X8_isTable.2.2, by decide, by decide⟩ (ds_wb_T (p := 416) (by decide +kernel)) zt_X8_isTable (Nat.le_of_ble_eq_true rfl)
  obtain ⟨x9, rfl, e8, e9⟩ := hr
  rw [e8, e9]
  show ds_X mt_X8_worst Yc 4 [some (.ref 0), some (.int a1), some (.int a2)] [.int (q_rng a1 0 3)] σ Q
  refine ds_if_ne (show decode mt_X8_worst.2.1 4 = .ok (.ifCond .ne 7, 3) from ds_dec (i := (4, .ifCond .ne 7, 3, 0, 0, 0, .int 0)) ok_X8_worst 2 rfl) (t := 11) (by decide) (fun hc => ?_) (fun hc => ?_)
  · replace h := h.1 hc
    refine ds_blk (ls2 := [some (.ref 0), some (.int a1), some (.int a2)]) (st2 := [.int a2]) (σ2 := σ) ok_X8_worst 5 1 11 12 [] rfl rfl rfl rfl trivial ?_
    refine ds_if_lt (show decode mt_X8_worst.2.1 12 = .ok (.ifCond .lt 8, 3) from ds_dec (i := (12, .ifCond .lt 8, 3, 0, 0, 0, .int 0)) ok_X8_worst 6 rfl) (t := 20) (by decide) (fun hc => ?_) (fun hc => ?_)
    · replace h := h.1 hc
      refine ds_blk (ls2 := [some (.ref 0), some (.int a1), some (.int a2)]) (st2 := [.long (-1000000000000000002 : Int64)]) (σ2 := σ) ok_X8_worst 10 1 20 23 [] rfl rfl rfl rfl trivial ?_
      exact ds_lret (show decode mt_X8_worst.2.1 23 = .ok (.lreturn, 1) from ds_dec (i := (23, .lreturn, 1, 0, 0, 0, .int 0)) ok_X8_worst 11 rfl) rfl h
    · replace h := h.2 hc
      refine ds_blk (ls2 := [some (.ref 0), some (.int a1), some (.int a2)]) (st2 := [.int (3 : Int32), .int a2]) (σ2 := σ) ok_X8_worst 7 2 15 17 [] rfl rfl rfl rfl trivial ?_
      refine ds_ic_le (show decode mt_X8_worst.2.1 17 = .ok (.if_icmp .le 7, 3) from ds_dec (i := (17, .if_icmp .le 7, 3, 0, 0, 0, .int 0)) ok_X8_worst 9 rfl) (t := 24) (by decide) (fun hc => ?_) (fun hc => ?_)
      · replace h := h.1 hc
        refine ds_blk (ls2 := [some (.ref 0), some (.int a1), some (.int a2)]) (st2 := [.int a1, .ref 0]) (σ2 := σ) ok_X8_worst 12 2 24 26 [] rfl rfl rfl rfl trivial ?_
        refine ds_callV (z := mt_X8_findPeak) (b := 0) (as := [.int a1]) (rest := []) (show decode mt_X8_worst.2.1 26 = .ok (.invokevirtual 187, 3) from ds_dec (i := (26, .invokevirtual 187, 3, 0, 0, 514, .int 0)) ok_X8_worst 14 rfl) (ds_E.mono h (fun r σ2 hr => ?_)) ⟨zw_X8_findPeak.1, zw_X8_findPeak.2.1, zw_X8_findPeak.2.2, by decide, by decide⟩ (ds_wb_T (p := 514) (by decide +kernel)) zi_X8_findPeak zs_X8_findPeak (by decide) rfl ⟨_, rfl, rfl⟩ (Nat.le_of_ble_eq_true rfl)
        obtain ⟨rfl, h⟩ := hr
        show ds_X mt_X8_worst Yc 29 [some (.ref 0), some (.int a1), some (.int a2)] [] σ2 Q
        refine ds_blk (ls2 := [some (.ref 0), some (.int a1), some (.int a2)]) (st2 := [.int (2 : Int32), .int a2]) (σ2 := σ2) ok_X8_worst 15 2 29 31 [] rfl rfl rfl rfl trivial ?_
        refine ds_ic_ne (show decode mt_X8_worst.2.1 31 = .ok (.if_icmp .ne 12, 3) from ds_dec (i := (31, .if_icmp .ne 12, 3, 0, 0, 0, .int 0)) ok_X8_worst 17 rfl) (t := 43) (by decide) (fun hc => ?_) (fun hc => ?_)
        · replace h := h.1 hc
          refine ds_blk (ls2 := [some (.ref 0), some (.int a1), some (.int a2)]) (st2 := [.int (3 : Int32), .int a2]) (σ2 := σ2) ok_X8_worst 23 2 43 45 [] rfl rfl rfl rfl trivial ?_
          refine ds_ic_ne (show decode mt_X8_worst.2.1 45 = .ok (.if_icmp .ne 12, 3) from ds_dec (i := (45, .if_icmp .ne 12, 3, 0, 0, 0, .int 0)) ok_X8_worst 25 rfl) (t := 57) (by decide) (fun hc => ?_) (fun hc => ?_)
          · replace h := h.1 hc
            refine ds_blk (ls2 := [some (.ref 0), some (.int a1), some (.int a2)]) (st2 := [.int a2, .long ((151200 : Int64) * (σ2.1 11 1).toInt64), .long (σ2.2 11 0)]) (σ2 := σ2) ok_X8_worst 31 10 57 77 [ds_k Yc 0 8, ds_k Yc 11 3, ds_k Yc 0 8, ds_k Yc 11 3] rfl rfl rfl rfl ⟨⟨by decide, rfl⟩, ⟨by decide, rfl⟩, ⟨by decide, rfl⟩, ⟨by decide, rfl⟩, trivial⟩ ?_
            obtain ⟨o1, o2, o3, h⟩ := h
            refine ds_callS (z := mt_X8_fraction) (as := [.long (σ2.2 11 0), .long ((151200 : Int64) * (σ2.1 11 1).toInt64), .int a2]) (rest := []) (show decode mt_X8_worst.2.1 77 = .ok (.invokestatic 175, 3) from ds_dec (i := (77, .invokestatic 175, 3, 0, 0, 482, .int 0)) ok_X8_worst 41 rfl) (ds_E.mono (sp_X8_fraction (σ2.2 11 0) ((151200 : Int64) * (σ2.1 11 1).toInt64) a2 σ2 o1 o2 o3) (fun r σ3 hr => ?_)) ⟨zw_X8_fraction.1, zw_X8_fraction.2.1, zw_X8_fraction.2.2, by decide, by decide⟩ (ds_wb_T (p := 482) (by decide +kernel)) zt_X8_fraction (Nat.le_of_ble_eq_true rfl)
            obtain ⟨x9, rfl, e8, e9⟩ := hr
            rw [e8, e9]
            show ds_X mt_X8_worst Yc 80 [some (.ref 0), some (.int a1), some (.int a2)] [.long (q_low0 (σ2.2 11 0) ((151200 : Int64) * (σ2.1 11 1).toInt64) a2)] σ2 Q
            exact ds_lret (show decode mt_X8_worst.2.1 80 = .ok (.lreturn, 1) from ds_dec (i := (80, .lreturn, 1, 0, 0, 0, .int 0)) ok_X8_worst 42 rfl) rfl h
          · replace h := h.2 hc
            refine ds_blk (ls2 := [some (.ref 0), some (.int a1), some (.int a2)]) (st2 := [.long ((σ2.1 11 3).toInt64)]) (σ2 := σ2) ok_X8_worst 26 4 48 56 [ds_k Yc 0 8, ds_k Yc 11 3] rfl rfl rfl rfl ⟨⟨by decide, rfl⟩, ⟨by decide, rfl⟩, trivial⟩ ?_
            exact ds_lret (show decode mt_X8_worst.2.1 56 = .ok (.lreturn, 1) from ds_dec (i := (56, .lreturn, 1, 0, 0, 0, .int 0)) ok_X8_worst 30 rfl) rfl h
        · replace h := h.2 hc
          refine ds_blk (ls2 := [some (.ref 0), some (.int a1), some (.int a2)]) (st2 := [.long ((σ2.1 11 2).toInt64)]) (σ2 := σ2) ok_X8_worst 18 4 34 42 [ds_k Yc 0 8, ds_k Yc 11 3] rfl rfl rfl rfl ⟨⟨by decide, rfl⟩, ⟨by decide, rfl⟩, trivial⟩ ?_
          exact ds_lret (show decode mt_X8_worst.2.1 42 = .ok (.lreturn, 1) from ds_dec (i := (42, .lreturn, 1, 0, 0, 0, .int 0)) ok_X8_worst 22 rfl) rfl h
      · replace h := h.2 hc
        refine ds_blk (ls2 := [some (.ref 0), some (.int a1), some (.int a2)]) (st2 := [.long (-1000000000000000002 : Int64)]) (σ2 := σ) ok_X8_worst 10 1 20 23 [] rfl rfl rfl rfl trivial ?_
        exact ds_lret (show decode mt_X8_worst.2.1 23 = .ok (.lreturn, 1) from ds_dec (i := (23, .lreturn, 1, 0, 0, 0, .int 0)) ok_X8_worst 11 rfl) rfl h
  · replace h := h.2 hc
    refine ds_blk (ls2 := [some (.ref 0), some (.int a1), some (.int a2)]) (st2 := [.long (-1000000000000000001 : Int64)]) (σ2 := σ) ok_X8_worst 3 1 7 10 [] rfl rfl rfl rfl trivial ?_
    exact ds_lret (show decode mt_X8_worst.2.1 10 = .ok (.lreturn, 1) from ds_dec (i := (10, .lreturn, 1, 0, 0, 0, .int 0)) ok_X8_worst 4 rfl) rfl h
def w_X8_guard_15 (v1 : Int32) (t0 : Int32) (σ : ds_S) (Q : Option Value → ds_S → Prop) : Prop := (v1 = 0 ∨ v1 = 1) ∧ ds_EV mt_X5_forget Yc [.ref 14] (ds_wi σ 12 2 v1) (fun σ1 => Q (some (.int t0)) σ1)
theorem x_X8_guard_15 (v1 : Int32) (t0 : Int32) (g2 : Option Value) (σ : ds_S) (Q : Option Value → ds_S → Prop) (h : w_X8_guard_15 v1 t0 σ Q) : ds_X mt_X8_guard Yc 15 [some (.ref 0), some (.int v1), g2] [.int t0] σ Q := by
  unfold w_X8_guard_15 at h
  obtain ⟨o1, h⟩ := h
  refine ds_blk (ls2 := [some (.ref 0), some (.int v1), some (.int t0)]) (st2 := [.ref 14]) (σ2 := (ds_wi σ 12 2 v1)) ok_X8_guard 7 7 15 28 [ds_k Yc 0 8, ds_k Yc 12 6, v1 = 0 ∨ v1 = 1, ds_k Yc 0 8] rfl rfl rfl rfl ⟨⟨by decide, rfl⟩, ⟨by decide, rfl⟩, o1, ⟨by decide, rfl⟩, trivial⟩ ?_
  refine ds_callV (z := mt_X5_forget) (b := 14) (as := []) (rest := []) (show decode mt_X8_guard.2.1 28 = .ok (.invokevirtual 87, 3) from ds_dec (i := (28, .invokevirtual 87, 3, 0, 0, 364, .int 0)) ok_X8_guard 14 rfl) (ds_E.mono h (fun r σ1 hr => ?_)) ⟨zw_X5_forget.1, zw_X5_forget.2.1, zw_X5_forget.2.2, by decide, by decide⟩ (ds_wb_T (p := 364) (by decide +kernel)) zi_X5_forget zs_X5_forget (by decide) rfl ⟨_, rfl, rfl⟩ (Nat.le_of_ble_eq_true rfl)
  obtain ⟨rfl, h⟩ := hr
  show ds_X mt_X8_guard Yc 31 [some (.ref 0), some (.int v1), some (.int t0)] [] σ1 Q
  refine ds_blk (ls2 := [some (.ref 0), some (.int v1), some (.int t0)]) (st2 := [.int t0]) (σ2 := σ1) ok_X8_guard 15 1 31 32 [] rfl rfl rfl rfl trivial ?_
  exact ds_iret (show decode mt_X8_guard.2.1 32 = .ok (.ireturn, 1) from ds_dec (i := (32, .ireturn, 1, 0, 0, 0, .int 0)) ok_X8_guard 16 rfl) rfl h
def w_X8_guard (a1 : Int32) (σ : ds_S) (Q : Option Value → ds_S → Prop) : Prop := (((σ.1 12 2) = 0 → w_X8_guard_15 a1 (0 : Int32) σ Q) ∧ (¬ (σ.1 12 2) = 0 → w_X8_guard_15 a1 (1 : Int32) σ Q))
theorem e_X8_guard (a1 : Int32) (σ : ds_S) (Q : Option Value → ds_S → Prop) (h : w_X8_guard a1 σ Q) : ds_E mt_X8_guard Yc [.ref 0, .int a1] σ Q := by
  refine ds_enter (by decide) (Nat.le_of_ble_eq_true rfl) ?_
  show ds_X mt_X8_guard Yc 0 [some (.ref 0), some (.int a1), none] [] σ Q
  unfold w_X8_guard at h
  refine ds_blk (ls2 := [some (.ref 0), some (.int a1), none]) (st2 := [.int (σ.1 12 2)]) (σ2 := σ) ok_X8_guard 0 3 0 7 [ds_k Yc 0 8, ds_k Yc 12 6] rfl rfl rfl rfl ⟨⟨by decide, rfl⟩, ⟨by decide, rfl⟩, trivial⟩ ?_
  refine ds_if_eq (show decode mt_X8_guard.2.1 7 = .ok (.ifCond .eq 7, 3) from ds_dec (i := (7, .ifCond .eq 7, 3, 0, 0, 0, .int 0)) ok_X8_guard 3 rfl) (t := 14) (by decide) (fun hc => ?_) (fun hc => ?_)
  · replace h := h.1 hc
    refine ds_blk (ls2 := [some (.ref 0), some (.int a1), none]) (st2 := [.int (0 : Int32)]) (σ2 := σ) ok_X8_guard 6 1 14 15 [] rfl rfl rfl rfl trivial ?_
    refine x_X8_guard_15 a1 (0 : Int32) _ σ Q h
  · replace h := h.2 hc
    refine ds_blk (ls2 := [some (.ref 0), some (.int a1), none]) (st2 := [.int (1 : Int32)]) (σ2 := σ) ok_X8_guard 4 1 10 11 [] rfl rfl rfl rfl trivial ?_
    refine ds_goto (show decode mt_X8_guard.2.1 11 = .ok (.goto 4, 3) from ds_dec (i := (11, .goto 4, 3, 0, 0, 0, .int 0)) ok_X8_guard 5 rfl) (t := 15) (by decide) ?_
    refine x_X8_guard_15 a1 (1 : Int32) _ σ Q h
def w_X8_all (a1 : Int32) (σ : ds_S) (Q : Option Value → ds_S → Prop) : Prop := ((a1 < 0 → Q (some (.long (-1000000000000000002 : Int64))) σ) ∧ (¬ a1 < 0 → ((a1 ≤ (3 : Int32) → ds_EV mt_X6_findWorst Yc [.ref 12, .ref 64, .ref 11] σ (fun σ1 => ((¬ a1 = (2 : Int32) → ((¬ a1 = (3 : Int32) → 0 ≤ (σ1.2 11 0) ∧ 0 ≤ ((151200 : Int64) * (σ1.1 11 1).toInt64) ∧ ((151200 : Int64) * (σ1.1 11 1).toInt64) < 562949953421312 ∧ Q (some (.long (q_low0 (σ1.2 11 0) ((151200 : Int64) * (σ1.1 11 1).toInt64) a1))) σ1) ∧ (a1 = (3 : Int32) → ((¬ (σ1.1 11 5) = (-1 : Int32) → Q (some (.long ((σ1.1 11 5).toInt64))) σ1) ∧ ((σ1.1 11 5) = (-1 : Int32) → Q (some (.long (-6 : Int64))) σ1))))) ∧ (a1 = (2 : Int32) → Q (some (.long ((σ1.1 11 4).toInt64))) σ1)))) ∧ (¬ a1 ≤ (3 : Int32) → Q (some (.long (-1000000000000000002 : Int64))) σ))))
theorem e_X8_all (a1 : Int32) (σ : ds_S) (Q : Option Value → ds_S → Prop) (h : w_X8_all a1 σ Q) : ds_E mt_X8_all Yc [.ref 0, .int a1] σ Q := by
  refine ds_enter (by decide) (Nat.le_of_ble_eq_true rfl) ?_
  show ds_X mt_X8_all Yc 0 [some (.ref 0), some (.int a1)] [] σ Q
  unfold w_X8_all at h
  refine ds_blk (ls2 := [some (.ref 0), some (.int a1)]) (st2 := [.int a1]) (σ2 := σ) ok_X8_all 0 1 0 1 [] rfl rfl rfl rfl trivial ?_
  refine ds_if_lt (show decode mt_X8_all.2.1 1 = .ok (.ifCond .lt 8, 3) from ds_dec (i := (1, .ifCond .lt 8, 3, 0, 0, 0, .int 0)) ok_X8_all 1 rfl) (t := 9) (by decide) (fun hc => ?_) (fun hc => ?_)
  · replace h := h.1 hc
    refine ds_blk (ls2 := [some (.ref 0), some (.int a1)]) (st2 := [.long (-1000000000000000002 : Int64)]) (σ2 := σ) ok_X8_all 5 1 9 12 [] rfl rfl rfl rfl trivial ?_
    exact ds_lret (show decode mt_X8_all.2.1 12 = .ok (.lreturn, 1) from ds_dec (i := (12, .lreturn, 1, 0, 0, 0, .int 0)) ok_X8_all 6 rfl) rfl h
  · replace h := h.2 hc
    refine ds_blk (ls2 := [some (.ref 0), some (.int a1)]) (st2 := [.int (3 : Int32), .int a1]) (σ2 := σ) ok_X8_all 2 2 4 6 [] rfl rfl rfl rfl trivial ?_
    refine ds_ic_le (show decode mt_X8_all.2.1 6 = .ok (.if_icmp .le 7, 3) from ds_dec (i := (6, .if_icmp .le 7, 3, 0, 0, 0, .int 0)) ok_X8_all 4 rfl) (t := 13) (by decide) (fun hc => ?_) (fun hc => ?_)
    · replace h := h.1 hc
      refine ds_blk (ls2 := [some (.ref 0), some (.int a1)]) (st2 := [.ref 11, .ref 64, .ref 12]) (σ2 := σ) ok_X8_all 7 7 13 28 [ds_k Yc 0 8, ds_k Yc 0 8, ds_k Yc 1 1, ds_k Yc 0 8] rfl rfl rfl rfl ⟨⟨by decide, rfl⟩, ⟨by decide, rfl⟩, ⟨by decide, rfl⟩, ⟨by decide, rfl⟩, trivial⟩ ?_
      refine ds_callV (z := mt_X6_findWorst) (b := 12) (as := [.ref 64, .ref 11]) (rest := []) (show decode mt_X8_all.2.1 28 = .ok (.invokevirtual 205, 3) from ds_dec (i := (28, .invokevirtual 205, 3, 0, 0, 535, .int 0)) ok_X8_all 14 rfl) (ds_E.mono h (fun r σ1 hr => ?_)) ⟨zw_X6_findWorst.1, zw_X6_findWorst.2.1, zw_X6_findWorst.2.2, by decide, by decide⟩ (ds_wb_T (p := 535) (by decide +kernel)) zi_X6_findWorst zs_X6_findWorst (by decide) rfl ⟨_, rfl, rfl⟩ (Nat.le_of_ble_eq_true rfl)
      obtain ⟨rfl, h⟩ := hr
      show ds_X mt_X8_all Yc 31 [some (.ref 0), some (.int a1)] [] σ1 Q
      refine ds_blk (ls2 := [some (.ref 0), some (.int a1)]) (st2 := [.int (2 : Int32), .int a1]) (σ2 := σ1) ok_X8_all 15 2 31 33 [] rfl rfl rfl rfl trivial ?_
      refine ds_ic_ne (show decode mt_X8_all.2.1 33 = .ok (.if_icmp .ne 12, 3) from ds_dec (i := (33, .if_icmp .ne 12, 3, 0, 0, 0, .int 0)) ok_X8_all 17 rfl) (t := 45) (by decide) (fun hc => ?_) (fun hc => ?_)
      · replace h := h.1 hc
        refine ds_blk (ls2 := [some (.ref 0), some (.int a1)]) (st2 := [.int (3 : Int32), .int a1]) (σ2 := σ1) ok_X8_all 23 2 45 47 [] rfl rfl rfl rfl trivial ?_
        refine ds_ic_ne (show decode mt_X8_all.2.1 47 = .ok (.if_icmp .ne 29, 3) from ds_dec (i := (47, .if_icmp .ne 29, 3, 0, 0, 0, .int 0)) ok_X8_all 25 rfl) (t := 76) (by decide) (fun hc => ?_) (fun hc => ?_)
        · replace h := h.1 hc
          refine ds_blk (ls2 := [some (.ref 0), some (.int a1)]) (st2 := [.int a1, .long ((151200 : Int64) * (σ1.1 11 1).toInt64), .long (σ1.2 11 0)]) (σ2 := σ1) ok_X8_all 38 10 76 96 [ds_k Yc 0 8, ds_k Yc 11 3, ds_k Yc 0 8, ds_k Yc 11 3] rfl rfl rfl rfl ⟨⟨by decide, rfl⟩, ⟨by decide, rfl⟩, ⟨by decide, rfl⟩, ⟨by decide, rfl⟩, trivial⟩ ?_
          obtain ⟨o1, o2, o3, h⟩ := h
          refine ds_callS (z := mt_X8_fraction) (as := [.long (σ1.2 11 0), .long ((151200 : Int64) * (σ1.1 11 1).toInt64), .int a1]) (rest := []) (show decode mt_X8_all.2.1 96 = .ok (.invokestatic 175, 3) from ds_dec (i := (96, .invokestatic 175, 3, 0, 0, 482, .int 0)) ok_X8_all 48 rfl) (ds_E.mono (sp_X8_fraction (σ1.2 11 0) ((151200 : Int64) * (σ1.1 11 1).toInt64) a1 σ1 o1 o2 o3) (fun r σ2 hr => ?_)) ⟨zw_X8_fraction.1, zw_X8_fraction.2.1, zw_X8_fraction.2.2, by decide, by decide⟩ (ds_wb_T (p := 482) (by decide +kernel)) zt_X8_fraction (Nat.le_of_ble_eq_true rfl)
          obtain ⟨x9, rfl, e8, e9⟩ := hr
          rw [e8, e9]
          show ds_X mt_X8_all Yc 99 [some (.ref 0), some (.int a1)] [.long (q_low0 (σ1.2 11 0) ((151200 : Int64) * (σ1.1 11 1).toInt64) a1)] σ1 Q
          exact ds_lret (show decode mt_X8_all.2.1 99 = .ok (.lreturn, 1) from ds_dec (i := (99, .lreturn, 1, 0, 0, 0, .int 0)) ok_X8_all 49 rfl) rfl h
        · replace h := h.2 hc
          refine ds_blk (ls2 := [some (.ref 0), some (.int a1)]) (st2 := [.int (-1 : Int32), .int (σ1.1 11 5)]) (σ2 := σ1) ok_X8_all 26 4 50 58 [ds_k Yc 0 8, ds_k Yc 11 3] rfl rfl rfl rfl ⟨⟨by decide, rfl⟩, ⟨by decide, rfl⟩, trivial⟩ ?_
          refine ds_ic_ne (show decode mt_X8_all.2.1 58 = .ok (.if_icmp .ne 9, 3) from ds_dec (i := (58, .if_icmp .ne 9, 3, 0, 0, 0, .int 0)) ok_X8_all 30 rfl) (t := 67) (by decide) (fun hc => ?_) (fun hc => ?_)
          · replace h := h.1 hc
            refine ds_blk (ls2 := [some (.ref 0), some (.int a1)]) (st2 := [.long ((σ1.1 11 5).toInt64)]) (σ2 := σ1) ok_X8_all 33 4 67 75 [ds_k Yc 0 8, ds_k Yc 11 3] rfl rfl rfl rfl ⟨⟨by decide, rfl⟩, ⟨by decide, rfl⟩, trivial⟩ ?_
            exact ds_lret (show decode mt_X8_all.2.1 75 = .ok (.lreturn, 1) from ds_dec (i := (75, .lreturn, 1, 0, 0, 0, .int 0)) ok_X8_all 37 rfl) rfl h
          · replace h := h.2 hc
            refine ds_blk (ls2 := [some (.ref 0), some (.int a1)]) (st2 := [.long (-6 : Int64)]) (σ2 := σ1) ok_X8_all 31 1 61 64 [] rfl rfl rfl rfl trivial ?_
            refine ds_goto (show decode mt_X8_all.2.1 64 = .ok (.goto 11, 3) from ds_dec (i := (64, .goto 11, 3, 0, 0, 0, .int 0)) ok_X8_all 32 rfl) (t := 75) (by decide) ?_
            exact ds_lret (show decode mt_X8_all.2.1 75 = .ok (.lreturn, 1) from ds_dec (i := (75, .lreturn, 1, 0, 0, 0, .int 0)) ok_X8_all 37 rfl) rfl h
      · replace h := h.2 hc
        refine ds_blk (ls2 := [some (.ref 0), some (.int a1)]) (st2 := [.long ((σ1.1 11 4).toInt64)]) (σ2 := σ1) ok_X8_all 18 4 36 44 [ds_k Yc 0 8, ds_k Yc 11 3] rfl rfl rfl rfl ⟨⟨by decide, rfl⟩, ⟨by decide, rfl⟩, trivial⟩ ?_
        exact ds_lret (show decode mt_X8_all.2.1 44 = .ok (.lreturn, 1) from ds_dec (i := (44, .lreturn, 1, 0, 0, 0, .int 0)) ok_X8_all 22 rfl) rfl h
    · replace h := h.2 hc
      refine ds_blk (ls2 := [some (.ref 0), some (.int a1)]) (st2 := [.long (-1000000000000000002 : Int64)]) (σ2 := σ) ok_X8_all 5 1 9 12 [] rfl rfl rfl rfl trivial ?_
      exact ds_lret (show decode mt_X8_all.2.1 12 = .ok (.lreturn, 1) from ds_dec (i := (12, .lreturn, 1, 0, 0, 0, .int 0)) ok_X8_all 6 rfl) rfl h
def w_X8_parted_57 : Nat → (v1 : Int32) → (v3 : Int32) → (v4 : Int32) → (v5 : Int32) → (σ : ds_S) → (Q : Option Value → ds_S → Prop) → (K114 : Int32 → Int32 → Int32 → ds_S → Prop) → Prop
  | 0, _, _, _, _, _, _, _ => False
  | f + 1, v1, v3, v4, v5, σ, Q, K114 => (((σ.1 1 0) ≤ v5 → K114 v1 v3 v4 σ) ∧ (¬ (σ.1 1 0) ≤ v5 → vp_in v5 6 ∧ ds_k Yc (Yc.2.2.2 7 v5.toNatClampNeg) 7 ∧ ds_k Yc (Yc.2.2.2 (Yc.2.2.2 7 v5.toNatClampNeg) 0) 10 ∧ vp_in v4 (Yc.2.2.1 (Yc.2.2.2 (Yc.2.2.2 7 v5.toNatClampNeg) 0)) ∧ ((¬ (σ.1 (Yc.2.2.2 (Yc.2.2.2 7 v5.toNatClampNeg) 0) v4.toNatClampNeg) = (1000 : Int32) → w_X8_parted_57 f v1 v3 v4 (v5 + (1 : Int32)) σ Q K114) ∧ ((σ.1 (Yc.2.2.2 (Yc.2.2.2 7 v5.toNatClampNeg) 0) v4.toNatClampNeg) = (1000 : Int32) → vp_in v1 3 ∧ ds_k Yc (Yc.2.2.2 2 v1.toNatClampNeg) 10 ∧ vp_in ((v4 * (6 : Int32)) + v5) (Yc.2.2.1 (Yc.2.2.2 2 v1.toNatClampNeg)) ∧ w_X8_parted_57 f v1 (v3 + (σ.1 (Yc.2.2.2 2 v1.toNatClampNeg) (((v4 * (6 : Int32)) + v5).toNatClampNeg))) v4 (v5 + (1 : Int32)) σ Q K114))))
theorem x_X8_parted_57 : ∀ (f : Nat) (v1 : Int32) (v3 : Int32) (v4 : Int32) (v5 : Int32) (g2 : Option Value) (σ : ds_S) (Q : Option Value → ds_S → Prop) (K114 : Int32 → Int32 → Int32 → ds_S → Prop) (hK114 : ∀ (v1 : Int32) (v3 : Int32) (v4 : Int32) (g2 : Option Value) (g5 : Option Value) (σ2 : ds_S), K114 v1 v3 v4 σ2 → ds_X mt_X8_parted Yc 114 [some (.ref 0), some (.int v1), g2, some (.int v3), some (.int v4), g5] [] σ2 Q), w_X8_parted_57 f v1 v3 v4 v5 σ Q K114 → ds_X mt_X8_parted Yc 57 [some (.ref 0), some (.int v1), g2, some (.int v3), some (.int v4), some (.int v5)] [] σ Q := by
  intro f
  induction f with
  | zero => intro v1 v3 v4 v5 g2 σ Q K114 hK114 h; exact False.elim h
  | succ f ih =>
    intro v1 v3 v4 v5 g2 σ Q K114 hK114 h
    rw [w_X8_parted_57] at h
    refine ds_blk (ls2 := [some (.ref 0), some (.int v1), g2, some (.int v3), some (.int v4), some (.int v5)]) (st2 := [.int (σ.1 1 0), .int v5]) (σ2 := σ) ok_X8_parted 30 4 57 66 [ds_k Yc 0 8, ds_k Yc 1 1] rfl rfl rfl rfl ⟨⟨by decide, rfl⟩, ⟨by decide, rfl⟩, trivial⟩ ?_
    refine ds_ic_ge (show decode mt_X8_parted.2.1 66 = .ok (.if_icmp .ge 48, 3) from ds_dec (i := (66, .if_icmp .ge 48, 3, 0, 0, 0, .int 0)) ok_X8_parted 34 rfl) (t := 114) (by decide) (fun hc => ?_) (fun hc => ?_)
    · replace h := h.1 hc
      exact hK114 v1 v3 v4 _ _ σ h
    · replace h := h.2 hc
      obtain ⟨o1, o2, o3, o4, h⟩ := h
      refine ds_blk (ls2 := [some (.ref 0), some (.int v1), g2, some (.int v3), some (.int v4), some (.int v5)]) (st2 := [.int (1000 : Int32), .int (σ.1 (Yc.2.2.2 (Yc.2.2.2 7 v5.toNatClampNeg) 0) v4.toNatClampNeg)]) (σ2 := σ) ok_X8_parted 35 9 69 88 [ds_k Yc 0 8, ds_k Yc 6 4, ds_k Yc 7 13, vp_in v5 6, ds_k Yc (Yc.2.2.2 7 v5.toNatClampNeg) 7, ds_k Yc (Yc.2.2.2 (Yc.2.2.2 7 v5.toNatClampNeg) 0) 10, vp_in v4 (Yc.2.2.1 (Yc.2.2.2 (Yc.2.2.2 7 v5.toNatClampNeg) 0))] rfl rfl rfl rfl ⟨⟨by decide, rfl⟩, ⟨by decide, rfl⟩, ⟨by decide, rfl⟩, o1, o2, o3, o4, trivial⟩ ?_
      refine ds_ic_ne (show decode mt_X8_parted.2.1 88 = .ok (.if_icmp .ne 20, 3) from ds_dec (i := (88, .if_icmp .ne 20, 3, 0, 0, 0, .int 0)) ok_X8_parted 44 rfl) (t := 108) (by decide) (fun hc => ?_) (fun hc => ?_)
      · replace h := h.1 hc
        refine ds_blk (ls2 := [some (.ref 0), some (.int v1), g2, some (.int v3), some (.int v4), some (.int (v5 + (1 : Int32)))]) (st2 := []) (σ2 := σ) ok_X8_parted 56 1 108 111 [] rfl rfl rfl rfl trivial ?_
        refine ds_goto (show decode mt_X8_parted.2.1 111 = .ok (.goto (-54), 3) from ds_dec (i := (111, .goto (-54), 3, 0, 0, 0, .int 0)) ok_X8_parted 57 rfl) (t := 57) (by decide) ?_
        exact ih v1 v3 v4 (v5 + (1 : Int32)) _ σ Q K114 hK114 h
      · replace h := h.2 hc
        obtain ⟨o5, h⟩ := h
        refine ds_blk (ls2 := [some (.ref 0), some (.int v1), g2, some (.int v3), some (.int v4), some (.int v5)]) (st2 := [.int v5, .int v4, .ref (Yc.2.2.2 2 v1.toNatClampNeg), .int v3]) (σ2 := σ) ok_X8_parted 45 7 91 102 [ds_k Yc 0 8, ds_k Yc 2 14, vp_in v1 3] rfl rfl rfl rfl ⟨⟨by decide, rfl⟩, ⟨by decide, rfl⟩, o5, trivial⟩ ?_
        refine ds_callS (z := mt_X8_pair) (as := [.int v4, .int v5]) (rest := [.ref (Yc.2.2.2 2 v1.toNatClampNeg), .int v3]) (show decode mt_X8_parted.2.1 102 = .ok (.invokestatic 140, 3) from ds_dec (i := (102, .invokestatic 140, 3, 0, 0, 419, .int 0)) ok_X8_parted 52 rfl) (ds_E.mono (sp_X8_pair v4 v5 σ ) (fun r σ1 hr => ?_)) ⟨zw_X8_pair.1, zw_X8_pair.2.1, zw_X8_pair.2.2, by decide, by decide⟩ (ds_wb_T (p := 419) (by decide +kernel)) zt_X8_pair (Nat.le_of_ble_eq_true rfl)
        obtain ⟨x9, rfl, e8, e9⟩ := hr
        rw [e8, e9]
        show ds_X mt_X8_parted Yc 105 [some (.ref 0), some (.int v1), g2, some (.int v3), some (.int v4), some (.int v5)] [.int ((v4 * (6 : Int32)) + v5), .ref (Yc.2.2.2 2 v1.toNatClampNeg), .int v3] σ Q
        obtain ⟨o6, o7, h⟩ := h
        refine ds_blk (ls2 := [some (.ref 0), some (.int v1), (ds_nl g2), some (.int (v3 + (σ.1 (Yc.2.2.2 2 v1.toNatClampNeg) (((v4 * (6 : Int32)) + v5).toNatClampNeg)))), some (.int v4), some (.int (v5 + (1 : Int32)))]) (st2 := []) (σ2 := σ) ok_X8_parted 53 4 105 111 [ds_k Yc (Yc.2.2.2 2 v1.toNatClampNeg) 10, vp_in ((v4 * (6 : Int32)) + v5) (Yc.2.2.1 (Yc.2.2.2 2 v1.toNatClampNeg))] rfl rfl rfl rfl ⟨o6, o7, trivial⟩ ?_
        refine ds_goto (show decode mt_X8_parted.2.1 111 = .ok (.goto (-54), 3) from ds_dec (i := (111, .goto (-54), 3, 0, 0, 0, .int 0)) ok_X8_parted 57 rfl) (t := 57) (by decide) ?_
        exact ih v1 (v3 + (σ.1 (Yc.2.2.2 2 v1.toNatClampNeg) (((v4 * (6 : Int32)) + v5).toNatClampNeg))) v4 (v5 + (1 : Int32)) _ σ Q K114 hK114 h
def w_X8_parted_42 : Nat → (v1 : Int32) → (v3 : Int32) → (v4 : Int32) → (σ : ds_S) → (Q : Option Value → ds_S → Prop) → Prop
  | 0, _, _, _, _, _ => False
  | f + 1, v1, v3, v4, σ, Q => (((σ.1 1 0) ≤ v4 → Q (some (.int v3)) σ) ∧ (¬ (σ.1 1 0) ≤ v4 → ∃ n, w_X8_parted_57 n v1 v3 v4 (0 : Int32) σ Q (fun v1_1 v3_1 v4_1 σ1 => w_X8_parted_42 f v1_1 v3_1 (v4_1 + (1 : Int32)) σ1 Q)))
theorem x_X8_parted_42 : ∀ (f : Nat) (v1 : Int32) (v3 : Int32) (v4 : Int32) (g2 : Option Value) (g5 : Option Value) (σ : ds_S) (Q : Option Value → ds_S → Prop), w_X8_parted_42 f v1 v3 v4 σ Q → ds_X mt_X8_parted Yc 42 [some (.ref 0), some (.int v1), g2, some (.int v3), some (.int v4), g5] [] σ Q := by
  intro f
  induction f with
  | zero => intro v1 v3 v4 g2 g5 σ Q h; exact False.elim h
  | succ f ih =>
    intro v1 v3 v4 g2 g5 σ Q h
    rw [w_X8_parted_42] at h
    refine ds_blk (ls2 := [some (.ref 0), some (.int v1), g2, some (.int v3), some (.int v4), g5]) (st2 := [.int (σ.1 1 0), .int v4]) (σ2 := σ) ok_X8_parted 23 4 42 51 [ds_k Yc 0 8, ds_k Yc 1 1] rfl rfl rfl rfl ⟨⟨by decide, rfl⟩, ⟨by decide, rfl⟩, trivial⟩ ?_
    refine ds_ic_ge (show decode mt_X8_parted.2.1 51 = .ok (.if_icmp .ge 69, 3) from ds_dec (i := (51, .if_icmp .ge 69, 3, 0, 0, 0, .int 0)) ok_X8_parted 27 rfl) (t := 120) (by decide) (fun hc => ?_) (fun hc => ?_)
    · replace h := h.1 hc
      refine ds_blk (ls2 := [some (.ref 0), some (.int v1), g2, some (.int v3), some (.int v4), g5]) (st2 := [.int v3]) (σ2 := σ) ok_X8_parted 60 1 120 121 [] rfl rfl rfl rfl trivial ?_
      exact ds_iret (show decode mt_X8_parted.2.1 121 = .ok (.ireturn, 1) from ds_dec (i := (121, .ireturn, 1, 0, 0, 0, .int 0)) ok_X8_parted 61 rfl) rfl h
    · replace h := h.2 hc
      refine ds_blk (ls2 := [some (.ref 0), some (.int v1), g2, some (.int v3), some (.int v4), some (.int (0 : Int32))]) (st2 := []) (σ2 := σ) ok_X8_parted 28 2 54 57 [] rfl rfl rfl rfl trivial ?_
      obtain ⟨n, h⟩ := h
      refine x_X8_parted_57 n v1 v3 v4 (0 : Int32) _ σ Q _ ?_ h
      · intro v1_1 v3_1 v4_1 g2_1 g5_1 σ1 h
        refine ds_blk (ls2 := [some (.ref 0), some (.int v1_1), g2_1, some (.int v3_1), some (.int (v4_1 + (1 : Int32))), g5_1]) (st2 := []) (σ2 := σ1) ok_X8_parted 58 1 114 117 [] rfl rfl rfl rfl trivial ?_
        refine ds_goto (show decode mt_X8_parted.2.1 117 = .ok (.goto (-75), 3) from ds_dec (i := (117, .goto (-75), 3, 0, 0, 0, .int 0)) ok_X8_parted 59 rfl) (t := 42) (by decide) ?_
        exact ih v1_1 v3_1 (v4_1 + (1 : Int32)) _ _ σ1 Q h
def w_X8_parted_25 (v1 : Int32) (v2 : Int32) (σ : ds_S) (Q : Option Value → ds_S → Prop) : Prop := ds_EV mt_X4_findAll Yc [.ref 6, .ref 1, .int v2] σ (fun σ1 => ∃ n, w_X8_parted_42 n v1 (0 : Int32) (0 : Int32) σ1 Q)
theorem x_X8_parted_25 (v1 : Int32) (v2 : Int32) (g3 : Option Value) (g4 : Option Value) (g5 : Option Value) (σ : ds_S) (Q : Option Value → ds_S → Prop) (h : w_X8_parted_25 v1 v2 σ Q) : ds_X mt_X8_parted Yc 25 [some (.ref 0), some (.int v1), some (.int v2), g3, g4, g5] [] σ Q := by
  unfold w_X8_parted_25 at h
  refine ds_blk (ls2 := [some (.ref 0), some (.int v1), some (.int v2), g3, g4, g5]) (st2 := [.int v2, .ref 1, .ref 6]) (σ2 := σ) ok_X8_parted 13 5 25 34 [ds_k Yc 0 8, ds_k Yc 0 8] rfl rfl rfl rfl ⟨⟨by decide, rfl⟩, ⟨by decide, rfl⟩, trivial⟩ ?_
  refine ds_callV (z := mt_X4_findAll) (b := 6) (as := [.ref 1, .int v2]) (rest := []) (show decode mt_X8_parted.2.1 34 = .ok (.invokevirtual 179, 3) from ds_dec (i := (34, .invokevirtual 179, 3, 0, 0, 492, .int 0)) ok_X8_parted 18 rfl) (ds_E.mono h (fun r σ1 hr => ?_)) ⟨zw_X4_findAll.1, zw_X4_findAll.2.1, zw_X4_findAll.2.2, by decide, by decide⟩ (ds_wb_T (p := 492) (by decide +kernel)) zi_X4_findAll zs_X4_findAll (by decide) rfl ⟨_, rfl, rfl⟩ (Nat.le_of_ble_eq_true rfl)
  obtain ⟨rfl, h⟩ := hr
  show ds_X mt_X8_parted Yc 37 [some (.ref 0), some (.int v1), some (.int v2), g3, g4, g5] [] σ1 Q
  refine ds_blk (ls2 := [some (.ref 0), some (.int v1), some (.int v2), some (.int (0 : Int32)), some (.int (0 : Int32)), g5]) (st2 := []) (σ2 := σ1) ok_X8_parted 19 4 37 42 [] rfl rfl rfl rfl trivial ?_
  obtain ⟨n, h⟩ := h
  refine x_X8_parted_42 n v1 (0 : Int32) (0 : Int32) _ _ σ1 Q h
def w_X8_parted (a1 : Int32) (a2 : Int32) (σ : ds_S) (Q : Option Value → ds_S → Prop) : Prop := (((q_rng a1 0 3) = 0 → Q (some (.int (-1 : Int32))) σ) ∧ (¬ (q_rng a1 0 3) = 0 → ((a2 = (-1 : Int32) → w_X8_parted_25 a1 a2 σ Q) ∧ (¬ a2 = (-1 : Int32) → ((¬ (q_rng a2 0 (σ.1 1 1)) = 0 → w_X8_parted_25 a1 a2 σ Q) ∧ ((q_rng a2 0 (σ.1 1 1)) = 0 → Q (some (.int (-1 : Int32))) σ))))))
theorem e_X8_parted (a1 : Int32) (a2 : Int32) (σ : ds_S) (Q : Option Value → ds_S → Prop) (h : w_X8_parted a1 a2 σ Q) : ds_E mt_X8_parted Yc [.ref 0, .int a1, .int a2] σ Q := by
  refine ds_enter (by decide) (Nat.le_of_ble_eq_true rfl) ?_
  show ds_X mt_X8_parted Yc 0 [some (.ref 0), some (.int a1), some (.int a2), none, none, none] [] σ Q
  unfold w_X8_parted at h
  refine ds_blk (ls2 := [some (.ref 0), some (.int a1), some (.int a2), none, none, none]) (st2 := [.int a1]) (σ2 := σ) ok_X8_parted 0 1 0 1 [] rfl rfl rfl rfl trivial ?_
  refine ds_callS (z := mt_X8_isTable) (as := [.int a1]) (rest := []) (show decode mt_X8_parted.2.1 1 = .ok (.invokestatic 137, 3) from ds_dec (i := (1, .invokestatic 137, 3, 0, 0, 416, .int 0)) ok_X8_parted 1 rfl) (ds_E.mono (sp_X8_isTable a1 σ ) (fun r σ1 hr => ?_)) ⟨zw_X8_isTable.1, zw_X8_isTable.2.1, zw_X8_isTable.2.2, by decide, by decide⟩ (ds_wb_T (p := 416) (by decide +kernel)) zt_X8_isTable (Nat.le_of_ble_eq_true rfl)
  obtain ⟨x9, rfl, e8, e9⟩ := hr
  rw [e8, e9]
  show ds_X mt_X8_parted Yc 4 [some (.ref 0), some (.int a1), some (.int a2), none, none, none] [.int (q_rng a1 0 3)] σ Q
  refine ds_if_eq (show decode mt_X8_parted.2.1 4 = .ok (.ifCond .eq 19, 3) from ds_dec (i := (4, .ifCond .eq 19, 3, 0, 0, 0, .int 0)) ok_X8_parted 2 rfl) (t := 23) (by decide) (fun hc => ?_) (fun hc => ?_)
  · replace h := h.1 hc
    refine ds_blk (ls2 := [some (.ref 0), some (.int a1), some (.int a2), none, none, none]) (st2 := [.int (-1 : Int32)]) (σ2 := σ) ok_X8_parted 11 1 23 24 [] rfl rfl rfl rfl trivial ?_
    exact ds_iret (show decode mt_X8_parted.2.1 24 = .ok (.ireturn, 1) from ds_dec (i := (24, .ireturn, 1, 0, 0, 0, .int 0)) ok_X8_parted 12 rfl) rfl h
  · replace h := h.2 hc
    refine ds_blk (ls2 := [some (.ref 0), some (.int a1), some (.int a2), none, none, none]) (st2 := [.int (-1 : Int32), .int a2]) (σ2 := σ) ok_X8_parted 3 2 7 9 [] rfl rfl rfl rfl trivial ?_
    refine ds_ic_eq (show decode mt_X8_parted.2.1 9 = .ok (.if_icmp .eq 16, 3) from ds_dec (i := (9, .if_icmp .eq 16, 3, 0, 0, 0, .int 0)) ok_X8_parted 5 rfl) (t := 25) (by decide) (fun hc => ?_) (fun hc => ?_)
    · replace h := h.1 hc
      refine x_X8_parted_25 a1 a2 _ _ _ σ Q h
    · replace h := h.2 hc
      refine ds_blk (ls2 := [some (.ref 0), some (.int a1), some (.int a2), none, none, none]) (st2 := [.int a2, .ref 1]) (σ2 := σ) ok_X8_parted 6 3 12 17 [ds_k Yc 0 8] rfl rfl rfl rfl ⟨⟨by decide, rfl⟩, trivial⟩ ?_
      refine ds_callV (z := mt_X1_hasLine) (b := 1) (as := [.int a2]) (rest := []) (show decode mt_X8_parted.2.1 17 = .ok (.invokevirtual 105, 3) from ds_dec (i := (17, .invokevirtual 105, 3, 0, 0, 391, .int 0)) ok_X8_parted 9 rfl) (ds_E.mono (sp_X1_hasLine a2 σ ) (fun r σ2 hr => ?_)) ⟨zw_X1_hasLine.1, zw_X1_hasLine.2.1, zw_X1_hasLine.2.2, by decide, by decide⟩ (ds_wb_T (p := 391) (by decide +kernel)) zi_X1_hasLine zs_X1_hasLine (by decide) rfl ⟨_, rfl, rfl⟩ (Nat.le_of_ble_eq_true rfl)
      obtain ⟨x9, rfl, e8, e9⟩ := hr
      rw [e8, e9]
      show ds_X mt_X8_parted Yc 20 [some (.ref 0), some (.int a1), some (.int a2), none, none, none] [.int (q_rng a2 0 (σ.1 1 1))] σ Q
      refine ds_if_ne (show decode mt_X8_parted.2.1 20 = .ok (.ifCond .ne 5, 3) from ds_dec (i := (20, .ifCond .ne 5, 3, 0, 0, 0, .int 0)) ok_X8_parted 10 rfl) (t := 25) (by decide) (fun hc => ?_) (fun hc => ?_)
      · replace h := h.1 hc
        refine x_X8_parted_25 a1 a2 _ _ _ σ Q h
      · replace h := h.2 hc
        refine ds_blk (ls2 := [some (.ref 0), some (.int a1), some (.int a2), none, none, none]) (st2 := [.int (-1 : Int32)]) (σ2 := σ) ok_X8_parted 11 1 23 24 [] rfl rfl rfl rfl trivial ?_
        exact ds_iret (show decode mt_X8_parted.2.1 24 = .ok (.ireturn, 1) from ds_dec (i := (24, .ireturn, 1, 0, 0, 0, .int 0)) ok_X8_parted 12 rfl) rfl h
def w_X8_who_67 : Nat → (v1 : Int32) → (v2 : Int32) → (v3 : Int32) → (v4 : Int64) → (v6 : Int32) → (v7 : Int32) → (v8 : Int32) → (σ : ds_S) → (Q : Option Value → ds_S → Prop) → (K161 : Int32 → Int32 → Int32 → Int64 → Int32 → Int32 → ds_S → Prop) → Prop
  | 0, _, _, _, _, _, _, _, _, _, _ => False
  | f + 1, v1, v2, v3, v4, v6, v7, v8, σ, Q, K161 => (((σ.1 1 0) ≤ v8 → K161 v1 v2 v3 v4 v6 v7 σ) ∧ (¬ (σ.1 1 0) ≤ v8 → vp_in v8 6 ∧ ds_EV mt_X0_sendOne Yc [.ref 8, .ref 1, .ref (Yc.2.2.2 7 v8.toNatClampNeg), .int v7] σ (fun σ1 => vp_in v1 3 ∧ ds_k Yc (Yc.2.2.2 2 v1.toNatClampNeg) 10 ∧ vp_in ((v7 * (6 : Int32)) + v8) (Yc.2.2.1 (Yc.2.2.2 2 v1.toNatClampNeg)) ∧ vp_in (((2 : Int32) * v2) + v3) 20 ∧ (((lg_cmp ((σ1.1 (Yc.2.2.2 2 v1.toNatClampNeg) (((v7 * (6 : Int32)) + v8).toNatClampNeg)).toInt64 * (σ1.2 10 ((((2 : Int32) * v2) + v3).toNatClampNeg))) v4) ≤ 0 → w_X8_who_67 f v1 v2 v3 v4 v6 v7 (v8 + (1 : Int32)) σ1 Q K161) ∧ (¬ (lg_cmp ((σ1.1 (Yc.2.2.2 2 v1.toNatClampNeg) (((v7 * (6 : Int32)) + v8).toNatClampNeg)).toInt64 * (σ1.2 10 ((((2 : Int32) * v2) + v3).toNatClampNeg))) v4) ≤ 0 → w_X8_who_67 f v1 v2 v3 ((σ1.1 (Yc.2.2.2 2 v1.toNatClampNeg) (((v7 * (6 : Int32)) + v8).toNatClampNeg)).toInt64 * (σ1.2 10 ((((2 : Int32) * v2) + v3).toNatClampNeg))) (((10 : Int32) * v7) + v8) v7 (v8 + (1 : Int32)) σ1 Q K161)))))
theorem x_X8_who_67 : ∀ (f : Nat) (v1 : Int32) (v2 : Int32) (v3 : Int32) (v4 : Int64) (v6 : Int32) (v7 : Int32) (v8 : Int32) (g5 : Option Value) (g9 : Option Value) (g10 : Option Value) (σ : ds_S) (Q : Option Value → ds_S → Prop) (K161 : Int32 → Int32 → Int32 → Int64 → Int32 → Int32 → ds_S → Prop) (hK161 : ∀ (v1 : Int32) (v2 : Int32) (v3 : Int32) (v4 : Int64) (v6 : Int32) (v7 : Int32) (g5 : Option Value) (g8 : Option Value) (g9 : Option Value) (g10 : Option Value) (σ2 : ds_S), K161 v1 v2 v3 v4 v6 v7 σ2 → ds_X mt_X8_who Yc 161 [some (.ref 0), some (.int v1), some (.int v2), some (.int v3), some (.long v4), g5, some (.int v6), some (.int v7), g8, g9, g10] [] σ2 Q), w_X8_who_67 f v1 v2 v3 v4 v6 v7 v8 σ Q K161 → ds_X mt_X8_who Yc 67 [some (.ref 0), some (.int v1), some (.int v2), some (.int v3), some (.long v4), g5, some (.int v6), some (.int v7), some (.int v8), g9, g10] [] σ Q := by
  intro f
  induction f with
  | zero => intro v1 v2 v3 v4 v6 v7 v8 g5 g9 g10 σ Q K161 hK161 h; exact False.elim h
  | succ f ih =>
    intro v1 v2 v3 v4 v6 v7 v8 g5 g9 g10 σ Q K161 hK161 h
    rw [w_X8_who_67] at h
    refine ds_blk (ls2 := [some (.ref 0), some (.int v1), some (.int v2), some (.int v3), some (.long v4), g5, some (.int v6), some (.int v7), some (.int v8), g9, g10]) (st2 := [.int (σ.1 1 0), .int v8]) (σ2 := σ) ok_X8_who 34 4 67 76 [ds_k Yc 0 8, ds_k Yc 1 1] rfl rfl rfl rfl ⟨⟨by decide, rfl⟩, ⟨by decide, rfl⟩, trivial⟩ ?_
    refine ds_ic_ge (show decode mt_X8_who.2.1 76 = .ok (.if_icmp .ge 85, 3) from ds_dec (i := (76, .if_icmp .ge 85, 3, 0, 0, 0, .int 0)) ok_X8_who 38 rfl) (t := 161) (by decide) (fun hc => ?_) (fun hc => ?_)
    · replace h := h.1 hc
      exact hK161 v1 v2 v3 v4 v6 v7 _ _ _ _ σ h
    · replace h := h.2 hc
      obtain ⟨o1, h⟩ := h
      refine ds_blk (ls2 := [some (.ref 0), some (.int v1), some (.int v2), some (.int v3), some (.long v4), g5, some (.int v6), some (.int v7), some (.int v8), g9, g10]) (st2 := [.int v7, .ref (Yc.2.2.2 7 v8.toNatClampNeg), .ref 1, .ref 8]) (σ2 := σ) ok_X8_who 39 10 79 99 [ds_k Yc 0 8, ds_k Yc 0 8, ds_k Yc 0 8, ds_k Yc 6 4, ds_k Yc 7 13, vp_in v8 6] rfl rfl rfl rfl ⟨⟨by decide, rfl⟩, ⟨by decide, rfl⟩, ⟨by decide, rfl⟩, ⟨by decide, rfl⟩, ⟨by decide, rfl⟩, o1, trivial⟩ ?_
      refine ds_callV (z := mt_X0_sendOne) (b := 8) (as := [.ref 1, .ref (Yc.2.2.2 7 v8.toNatClampNeg), .int v7]) (rest := []) (show decode mt_X8_who.2.1 99 = .ok (.invokevirtual 162, 3) from ds_dec (i := (99, .invokevirtual 162, 3, 0, 0, 462, .int 0)) ok_X8_who 49 rfl) (ds_E.mono h (fun r σ1 hr => ?_)) ⟨zw_X0_sendOne.1, zw_X0_sendOne.2.1, zw_X0_sendOne.2.2, by decide, by decide⟩ (ds_wb_T (p := 462) (by decide +kernel)) zi_X0_sendOne zs_X0_sendOne (by decide) rfl ⟨_, rfl, rfl⟩ (Nat.le_of_ble_eq_true rfl)
      obtain ⟨rfl, h⟩ := hr
      show ds_X mt_X8_who Yc 102 [some (.ref 0), some (.int v1), some (.int v2), some (.int v3), some (.long v4), g5, some (.int v6), some (.int v7), some (.int v8), g9, g10] [] σ1 Q
      obtain ⟨o2, h⟩ := h
      refine ds_blk (ls2 := [some (.ref 0), some (.int v1), some (.int v2), some (.int v3), some (.long v4), g5, some (.int v6), some (.int v7), some (.int v8), g9, g10]) (st2 := [.int v8, .int v7, .ref (Yc.2.2.2 2 v1.toNatClampNeg)]) (σ2 := σ1) ok_X8_who 50 6 102 112 [ds_k Yc 0 8, ds_k Yc 2 14, vp_in v1 3] rfl rfl rfl rfl ⟨⟨by decide, rfl⟩, ⟨by decide, rfl⟩, o2, trivial⟩ ?_
      refine ds_callS (z := mt_X8_pair) (as := [.int v7, .int v8]) (rest := [.ref (Yc.2.2.2 2 v1.toNatClampNeg)]) (show decode mt_X8_who.2.1 112 = .ok (.invokestatic 140, 3) from ds_dec (i := (112, .invokestatic 140, 3, 0, 0, 419, .int 0)) ok_X8_who 56 rfl) (ds_E.mono (sp_X8_pair v7 v8 σ1 ) (fun r σ2 hr => ?_)) ⟨zw_X8_pair.1, zw_X8_pair.2.1, zw_X8_pair.2.2, by decide, by decide⟩ (ds_wb_T (p := 419) (by decide +kernel)) zt_X8_pair (Nat.le_of_ble_eq_true rfl)
      obtain ⟨x9, rfl, e8, e9⟩ := hr
      rw [e8, e9]
      show ds_X mt_X8_who Yc 115 [some (.ref 0), some (.int v1), some (.int v2), some (.int v3), some (.long v4), g5, some (.int v6), some (.int v7), some (.int v8), g9, g10] [.int ((v7 * (6 : Int32)) + v8), .ref (Yc.2.2.2 2 v1.toNatClampNeg)] σ1 Q
      obtain ⟨o3, o4, h⟩ := h
      refine ds_blk (ls2 := [some (.ref 0), some (.int v1), some (.int v2), some (.int v3), some (.long v4), g5, some (.int v6), some (.int v7), some (.int v8), g9, g10]) (st2 := [.int v3, .int v2, .ref 10, .long ((σ1.1 (Yc.2.2.2 2 v1.toNatClampNeg) (((v7 * (6 : Int32)) + v8).toNatClampNeg)).toInt64)]) (σ2 := σ1) ok_X8_who 57 7 115 126 [ds_k Yc (Yc.2.2.2 2 v1.toNatClampNeg) 10, vp_in ((v7 * (6 : Int32)) + v8) (Yc.2.2.1 (Yc.2.2.2 2 v1.toNatClampNeg)), ds_k Yc 0 8, ds_k Yc 8 0] rfl rfl rfl rfl ⟨o3, o4, ⟨by decide, rfl⟩, ⟨by decide, rfl⟩, trivial⟩ ?_
      refine ds_callS (z := mt_X8_slot) (as := [.int v2, .int v3]) (rest := [.ref 10, .long ((σ1.1 (Yc.2.2.2 2 v1.toNatClampNeg) (((v7 * (6 : Int32)) + v8).toNatClampNeg)).toInt64)]) (show decode mt_X8_who.2.1 126 = .ok (.invokestatic 170, 3) from ds_dec (i := (126, .invokestatic 170, 3, 0, 0, 478, .int 0)) ok_X8_who 64 rfl) (ds_E.mono (sp_X8_slot v2 v3 σ1 ) (fun r σ3 hr => ?_)) ⟨zw_X8_slot.1, zw_X8_slot.2.1, zw_X8_slot.2.2, by decide, by decide⟩ (ds_wb_T (p := 478) (by decide +kernel)) zt_X8_slot (Nat.le_of_ble_eq_true rfl)
      obtain ⟨x9, rfl, e8, e9⟩ := hr
      rw [e8, e9]
      show ds_X mt_X8_who Yc 129 [some (.ref 0), some (.int v1), some (.int v2), some (.int v3), some (.long v4), g5, some (.int v6), some (.int v7), some (.int v8), g9, g10] [.int (((2 : Int32) * v2) + v3), .ref 10, .long ((σ1.1 (Yc.2.2.2 2 v1.toNatClampNeg) (((v7 * (6 : Int32)) + v8).toNatClampNeg)).toInt64)] σ1 Q
      obtain ⟨o5, h⟩ := h
      refine ds_blk (ls2 := [some (.ref 0), some (.int v1), some (.int v2), some (.int v3), some (.long v4), g5, some (.int v6), some (.int v7), some (.int v8), some (.long ((σ1.1 (Yc.2.2.2 2 v1.toNatClampNeg) (((v7 * (6 : Int32)) + v8).toNatClampNeg)).toInt64 * (σ1.2 10 ((((2 : Int32) * v2) + v3).toNatClampNeg)))), none]) (st2 := [.int (lg_cmp ((σ1.1 (Yc.2.2.2 2 v1.toNatClampNeg) (((v7 * (6 : Int32)) + v8).toNatClampNeg)).toInt64 * (σ1.2 10 ((((2 : Int32) * v2) + v3).toNatClampNeg))) v4)]) (σ2 := σ1) ok_X8_who 65 6 129 138 [ds_k Yc 10 11, vp_in (((2 : Int32) * v2) + v3) 20] rfl rfl rfl rfl ⟨⟨by decide, rfl⟩, o5, trivial⟩ ?_
      refine ds_if_le (show decode mt_X8_who.2.1 138 = .ok (.ifCond .le 17, 3) from ds_dec (i := (138, .ifCond .le 17, 3, 0, 0, 0, .int 0)) ok_X8_who 71 rfl) (t := 155) (by decide) (fun hc => ?_) (fun hc => ?_)
      · replace h := h.1 hc
        refine ds_blk (ls2 := [some (.ref 0), some (.int v1), some (.int v2), some (.int v3), some (.long v4), g5, some (.int v6), some (.int v7), some (.int (v8 + (1 : Int32))), some (.long ((σ1.1 (Yc.2.2.2 2 v1.toNatClampNeg) (((v7 * (6 : Int32)) + v8).toNatClampNeg)).toInt64 * (σ1.2 10 ((((2 : Int32) * v2) + v3).toNatClampNeg)))), none]) (st2 := []) (σ2 := σ1) ok_X8_who 80 1 155 158 [] rfl rfl rfl rfl trivial ?_
        refine ds_goto (show decode mt_X8_who.2.1 158 = .ok (.goto (-91), 3) from ds_dec (i := (158, .goto (-91), 3, 0, 0, 0, .int 0)) ok_X8_who 81 rfl) (t := 67) (by decide) ?_
        exact ih v1 v2 v3 v4 v6 v7 (v8 + (1 : Int32)) _ _ _ σ1 Q K161 hK161 h
      · replace h := h.2 hc
        refine ds_blk (ls2 := [some (.ref 0), some (.int v1), some (.int v2), some (.int v3), some (.long ((σ1.1 (Yc.2.2.2 2 v1.toNatClampNeg) (((v7 * (6 : Int32)) + v8).toNatClampNeg)).toInt64 * (σ1.2 10 ((((2 : Int32) * v2) + v3).toNatClampNeg)))), none, some (.int (((10 : Int32) * v7) + v8)), some (.int v7), some (.int (v8 + (1 : Int32))), some (.long ((σ1.1 (Yc.2.2.2 2 v1.toNatClampNeg) (((v7 * (6 : Int32)) + v8).toNatClampNeg)).toInt64 * (σ1.2 10 ((((2 : Int32) * v2) + v3).toNatClampNeg)))), none]) (st2 := []) (σ2 := σ1) ok_X8_who 72 9 141 158 [] rfl rfl rfl rfl trivial ?_
        refine ds_goto (show decode mt_X8_who.2.1 158 = .ok (.goto (-91), 3) from ds_dec (i := (158, .goto (-91), 3, 0, 0, 0, .int 0)) ok_X8_who 81 rfl) (t := 67) (by decide) ?_
        exact ih v1 v2 v3 ((σ1.1 (Yc.2.2.2 2 v1.toNatClampNeg) (((v7 * (6 : Int32)) + v8).toNatClampNeg)).toInt64 * (σ1.2 10 ((((2 : Int32) * v2) + v3).toNatClampNeg))) (((10 : Int32) * v7) + v8) v7 (v8 + (1 : Int32)) _ _ _ σ1 Q K161 hK161 h
def w_X8_who_52 : Nat → (v1 : Int32) → (v2 : Int32) → (v3 : Int32) → (v4 : Int64) → (v6 : Int32) → (v7 : Int32) → (σ : ds_S) → (Q : Option Value → ds_S → Prop) → Prop
  | 0, _, _, _, _, _, _, _, _ => False
  | f + 1, v1, v2, v3, v4, v6, v7, σ, Q => (((σ.1 1 0) ≤ v7 → Q (some (.int v6)) σ) ∧ (¬ (σ.1 1 0) ≤ v7 → ∃ n, w_X8_who_67 n v1 v2 v3 v4 v6 v7 (0 : Int32) σ Q (fun v1_1 v2_1 v3_1 v4_1 v6_1 v7_1 σ1 => w_X8_who_52 f v1_1 v2_1 v3_1 v4_1 v6_1 (v7_1 + (1 : Int32)) σ1 Q)))
theorem x_X8_who_52 : ∀ (f : Nat) (v1 : Int32) (v2 : Int32) (v3 : Int32) (v4 : Int64) (v6 : Int32) (v7 : Int32) (g5 : Option Value) (g8 : Option Value) (g9 : Option Value) (g10 : Option Value) (σ : ds_S) (Q : Option Value → ds_S → Prop), w_X8_who_52 f v1 v2 v3 v4 v6 v7 σ Q → ds_X mt_X8_who Yc 52 [some (.ref 0), some (.int v1), some (.int v2), some (.int v3), some (.long v4), g5, some (.int v6), some (.int v7), g8, g9, g10] [] σ Q := by
  intro f
  induction f with
  | zero => intro v1 v2 v3 v4 v6 v7 g5 g8 g9 g10 σ Q h; exact False.elim h
  | succ f ih =>
    intro v1 v2 v3 v4 v6 v7 g5 g8 g9 g10 σ Q h
    rw [w_X8_who_52] at h
    refine ds_blk (ls2 := [some (.ref 0), some (.int v1), some (.int v2), some (.int v3), some (.long v4), g5, some (.int v6), some (.int v7), g8, g9, g10]) (st2 := [.int (σ.1 1 0), .int v7]) (σ2 := σ) ok_X8_who 27 4 52 61 [ds_k Yc 0 8, ds_k Yc 1 1] rfl rfl rfl rfl ⟨⟨by decide, rfl⟩, ⟨by decide, rfl⟩, trivial⟩ ?_
    refine ds_ic_ge (show decode mt_X8_who.2.1 61 = .ok (.if_icmp .ge 106, 3) from ds_dec (i := (61, .if_icmp .ge 106, 3, 0, 0, 0, .int 0)) ok_X8_who 31 rfl) (t := 167) (by decide) (fun hc => ?_) (fun hc => ?_)
    · replace h := h.1 hc
      refine ds_blk (ls2 := [some (.ref 0), some (.int v1), some (.int v2), some (.int v3), some (.long v4), g5, some (.int v6), some (.int v7), g8, g9, g10]) (st2 := [.int v6]) (σ2 := σ) ok_X8_who 84 1 167 169 [] rfl rfl rfl rfl trivial ?_
      exact ds_iret (show decode mt_X8_who.2.1 169 = .ok (.ireturn, 1) from ds_dec (i := (169, .ireturn, 1, 0, 0, 0, .int 0)) ok_X8_who 85 rfl) rfl h
    · replace h := h.2 hc
      refine ds_blk (ls2 := [some (.ref 0), some (.int v1), some (.int v2), some (.int v3), some (.long v4), g5, some (.int v6), some (.int v7), some (.int (0 : Int32)), g9, g10]) (st2 := []) (σ2 := σ) ok_X8_who 32 2 64 67 [] rfl rfl rfl rfl trivial ?_
      obtain ⟨n, h⟩ := h
      refine x_X8_who_67 n v1 v2 v3 v4 v6 v7 (0 : Int32) _ _ _ σ Q _ ?_ h
      · intro v1_1 v2_1 v3_1 v4_1 v6_1 v7_1 g5_1 g8_1 g9_1 g10_1 σ1 h
        refine ds_blk (ls2 := [some (.ref 0), some (.int v1_1), some (.int v2_1), some (.int v3_1), some (.long v4_1), g5_1, some (.int v6_1), some (.int (v7_1 + (1 : Int32))), g8_1, g9_1, g10_1]) (st2 := []) (σ2 := σ1) ok_X8_who 82 1 161 164 [] rfl rfl rfl rfl trivial ?_
        refine ds_goto (show decode mt_X8_who.2.1 164 = .ok (.goto (-112), 3) from ds_dec (i := (164, .goto (-112), 3, 0, 0, 0, .int 0)) ok_X8_who 83 rfl) (t := 52) (by decide) ?_
        exact ih v1_1 v2_1 v3_1 v4_1 v6_1 (v7_1 + (1 : Int32)) _ _ _ _ σ1 Q h
def w_X8_who (a1 : Int32) (a2 : Int32) (a3 : Int32) (σ : ds_S) (Q : Option Value → ds_S → Prop) : Prop := (((q_rng a1 0 3) = 0 → Q (some (.int (-1 : Int32))) σ) ∧ (¬ (q_rng a1 0 3) = 0 → ((¬ (q_rng a2 0 (σ.1 1 1)) = 0 → ((¬ (q_rng a3 0 2) = 0 → ds_EV mt_X4_findAll Yc [.ref 6, .ref 1, .int (-1 : Int32)] σ (fun σ4 => ∃ n, w_X8_who_52 n a1 a2 a3 (0 : Int64) (-6 : Int32) (0 : Int32) σ4 Q)) ∧ ((q_rng a3 0 2) = 0 → Q (some (.int (-2 : Int32))) σ))) ∧ ((q_rng a2 0 (σ.1 1 1)) = 0 → Q (some (.int (-1 : Int32))) σ))))
theorem e_X8_who (a1 : Int32) (a2 : Int32) (a3 : Int32) (σ : ds_S) (Q : Option Value → ds_S → Prop) (h : w_X8_who a1 a2 a3 σ Q) : ds_E mt_X8_who Yc [.ref 0, .int a1, .int a2, .int a3] σ Q := by
  refine ds_enter (by decide) (Nat.le_of_ble_eq_true rfl) ?_
  show ds_X mt_X8_who Yc 0 [some (.ref 0), some (.int a1), some (.int a2), some (.int a3), none, none, none, none, none, none, none] [] σ Q
  unfold w_X8_who at h
  refine ds_blk (ls2 := [some (.ref 0), some (.int a1), some (.int a2), some (.int a3), none, none, none, none, none, none, none]) (st2 := [.int a1]) (σ2 := σ) ok_X8_who 0 1 0 1 [] rfl rfl rfl rfl trivial ?_
  refine ds_callS (z := mt_X8_isTable) (as := [.int a1]) (rest := []) (show decode mt_X8_who.2.1 1 = .ok (.invokestatic 137, 3) from ds_dec (i := (1, .invokestatic 137, 3, 0, 0, 416, .int 0)) ok_X8_who 1 rfl) (ds_E.mono (sp_X8_isTable a1 σ ) (fun r σ1 hr => ?_)) ⟨zw_X8_isTable.1, zw_X8_isTable.2.1, zw_X8_isTable.2.2, by decide, by decide⟩ (ds_wb_T (p := 416) (by decide +kernel)) zt_X8_isTable (Nat.le_of_ble_eq_true rfl)
  obtain ⟨x9, rfl, e8, e9⟩ := hr
  rw [e8, e9]
  show ds_X mt_X8_who Yc 4 [some (.ref 0), some (.int a1), some (.int a2), some (.int a3), none, none, none, none, none, none, none] [.int (q_rng a1 0 3)] σ Q
  refine ds_if_eq (show decode mt_X8_who.2.1 4 = .ok (.ifCond .eq 14, 3) from ds_dec (i := (4, .ifCond .eq 14, 3, 0, 0, 0, .int 0)) ok_X8_who 2 rfl) (t := 18) (by decide) (fun hc => ?_) (fun hc => ?_)
  · replace h := h.1 hc
    refine ds_blk (ls2 := [some (.ref 0), some (.int a1), some (.int a2), some (.int a3), none, none, none, none, none, none, none]) (st2 := [.int (-1 : Int32)]) (σ2 := σ) ok_X8_who 8 1 18 19 [] rfl rfl rfl rfl trivial ?_
    exact ds_iret (show decode mt_X8_who.2.1 19 = .ok (.ireturn, 1) from ds_dec (i := (19, .ireturn, 1, 0, 0, 0, .int 0)) ok_X8_who 9 rfl) rfl h
  · replace h := h.2 hc
    refine ds_blk (ls2 := [some (.ref 0), some (.int a1), some (.int a2), some (.int a3), none, none, none, none, none, none, none]) (st2 := [.int a2, .ref 1]) (σ2 := σ) ok_X8_who 3 3 7 12 [ds_k Yc 0 8] rfl rfl rfl rfl ⟨⟨by decide, rfl⟩, trivial⟩ ?_
    refine ds_callV (z := mt_X1_hasLine) (b := 1) (as := [.int a2]) (rest := []) (show decode mt_X8_who.2.1 12 = .ok (.invokevirtual 105, 3) from ds_dec (i := (12, .invokevirtual 105, 3, 0, 0, 391, .int 0)) ok_X8_who 6 rfl) (ds_E.mono (sp_X1_hasLine a2 σ ) (fun r σ2 hr => ?_)) ⟨zw_X1_hasLine.1, zw_X1_hasLine.2.1, zw_X1_hasLine.2.2, by decide, by decide⟩ (ds_wb_T (p := 391) (by decide +kernel)) zi_X1_hasLine zs_X1_hasLine (by decide) rfl ⟨_, rfl, rfl⟩ (Nat.le_of_ble_eq_true rfl)
    obtain ⟨x9, rfl, e8, e9⟩ := hr
    rw [e8, e9]
    show ds_X mt_X8_who Yc 15 [some (.ref 0), some (.int a1), some (.int a2), some (.int a3), none, none, none, none, none, none, none] [.int (q_rng a2 0 (σ.1 1 1))] σ Q
    refine ds_if_ne (show decode mt_X8_who.2.1 15 = .ok (.ifCond .ne 5, 3) from ds_dec (i := (15, .ifCond .ne 5, 3, 0, 0, 0, .int 0)) ok_X8_who 7 rfl) (t := 20) (by decide) (fun hc => ?_) (fun hc => ?_)
    · replace h := h.1 hc
      refine ds_blk (ls2 := [some (.ref 0), some (.int a1), some (.int a2), some (.int a3), none, none, none, none, none, none, none]) (st2 := [.int a3]) (σ2 := σ) ok_X8_who 10 1 20 21 [] rfl rfl rfl rfl trivial ?_
      refine ds_callS (z := mt_X8_isOneOfTwo) (as := [.int a3]) (rest := []) (show decode mt_X8_who.2.1 21 = .ok (.invokestatic 130, 3) from ds_dec (i := (21, .invokestatic 130, 3, 0, 0, 406, .int 0)) ok_X8_who 11 rfl) (ds_E.mono (sp_X8_isOneOfTwo a3 σ ) (fun r σ3 hr => ?_)) ⟨zw_X8_isOneOfTwo.1, zw_X8_isOneOfTwo.2.1, zw_X8_isOneOfTwo.2.2, by decide, by decide⟩ (ds_wb_T (p := 406) (by decide +kernel)) zt_X8_isOneOfTwo (Nat.le_of_ble_eq_true rfl)
      obtain ⟨x9, rfl, e8, e9⟩ := hr
      rw [e8, e9]
      show ds_X mt_X8_who Yc 24 [some (.ref 0), some (.int a1), some (.int a2), some (.int a3), none, none, none, none, none, none, none] [.int (q_rng a3 0 2)] σ Q
      refine ds_if_ne (show decode mt_X8_who.2.1 24 = .ok (.ifCond .ne 6, 3) from ds_dec (i := (24, .ifCond .ne 6, 3, 0, 0, 0, .int 0)) ok_X8_who 12 rfl) (t := 30) (by decide) (fun hc => ?_) (fun hc => ?_)
      · replace h := h.1 hc
        refine ds_blk (ls2 := [some (.ref 0), some (.int a1), some (.int a2), some (.int a3), none, none, none, none, none, none, none]) (st2 := [.int (-1 : Int32), .ref 1, .ref 6]) (σ2 := σ) ok_X8_who 15 5 30 39 [ds_k Yc 0 8, ds_k Yc 0 8] rfl rfl rfl rfl ⟨⟨by decide, rfl⟩, ⟨by decide, rfl⟩, trivial⟩ ?_
        refine ds_callV (z := mt_X4_findAll) (b := 6) (as := [.ref 1, .int (-1 : Int32)]) (rest := []) (show decode mt_X8_who.2.1 39 = .ok (.invokevirtual 179, 3) from ds_dec (i := (39, .invokevirtual 179, 3, 0, 0, 492, .int 0)) ok_X8_who 20 rfl) (ds_E.mono h (fun r σ4 hr => ?_)) ⟨zw_X4_findAll.1, zw_X4_findAll.2.1, zw_X4_findAll.2.2, by decide, by decide⟩ (ds_wb_T (p := 492) (by decide +kernel)) zi_X4_findAll zs_X4_findAll (by decide) rfl ⟨_, rfl, rfl⟩ (Nat.le_of_ble_eq_true rfl)
        obtain ⟨rfl, h⟩ := hr
        show ds_X mt_X8_who Yc 42 [some (.ref 0), some (.int a1), some (.int a2), some (.int a3), none, none, none, none, none, none, none] [] σ4 Q
        refine ds_blk (ls2 := [some (.ref 0), some (.int a1), some (.int a2), some (.int a3), some (.long (0 : Int64)), none, some (.int (-6 : Int32)), some (.int (0 : Int32)), none, none, none]) (st2 := []) (σ2 := σ4) ok_X8_who 21 6 42 52 [] rfl rfl rfl rfl trivial ?_
        obtain ⟨n, h⟩ := h
        refine x_X8_who_52 n a1 a2 a3 (0 : Int64) (-6 : Int32) (0 : Int32) _ _ _ _ σ4 Q h
      · replace h := h.2 hc
        refine ds_blk (ls2 := [some (.ref 0), some (.int a1), some (.int a2), some (.int a3), none, none, none, none, none, none, none]) (st2 := [.int (-2 : Int32)]) (σ2 := σ) ok_X8_who 13 1 27 29 [] rfl rfl rfl rfl trivial ?_
        exact ds_iret (show decode mt_X8_who.2.1 29 = .ok (.ireturn, 1) from ds_dec (i := (29, .ireturn, 1, 0, 0, 0, .int 0)) ok_X8_who 14 rfl) rfl h
    · replace h := h.2 hc
      refine ds_blk (ls2 := [some (.ref 0), some (.int a1), some (.int a2), some (.int a3), none, none, none, none, none, none, none]) (st2 := [.int (-1 : Int32)]) (σ2 := σ) ok_X8_who 8 1 18 19 [] rfl rfl rfl rfl trivial ?_
      exact ds_iret (show decode mt_X8_who.2.1 19 = .ok (.ireturn, 1) from ds_dec (i := (19, .ireturn, 1, 0, 0, 0, .int 0)) ok_X8_who 9 rfl) rfl h
def w_X8_seek (a1 : Int32) (a2 : Int32) (σ : ds_S) (Q : Option Value → ds_S → Prop) : Prop := ((a1 < (1 : Int32) → Q (some (.int (-2 : Int32))) σ) ∧ (¬ a1 < (1 : Int32) → (((2 : Int32) < a1 → Q (some (.int (-2 : Int32))) σ) ∧ (¬ (2 : Int32) < a1 → ((a2 < 0 → Q (some (.int (-2 : Int32))) σ) ∧ (¬ a2 < 0 → ((a2 ≤ (10 : Int32) → ds_EV mt_X5_search Yc [.ref 14, .int a1, .int a2] σ (fun σ1 => Q (some (.int (σ1.1 14 3))) σ1)) ∧ (¬ a2 ≤ (10 : Int32) → Q (some (.int (-2 : Int32))) σ))))))))
theorem e_X8_seek (a1 : Int32) (a2 : Int32) (σ : ds_S) (Q : Option Value → ds_S → Prop) (h : w_X8_seek a1 a2 σ Q) : ds_E mt_X8_seek Yc [.ref 0, .int a1, .int a2] σ Q := by
  refine ds_enter (by decide) (Nat.le_of_ble_eq_true rfl) ?_
  show ds_X mt_X8_seek Yc 0 [some (.ref 0), some (.int a1), some (.int a2)] [] σ Q
  unfold w_X8_seek at h
  refine ds_blk (ls2 := [some (.ref 0), some (.int a1), some (.int a2)]) (st2 := [.int (1 : Int32), .int a1]) (σ2 := σ) ok_X8_seek 0 2 0 2 [] rfl rfl rfl rfl trivial ?_
  refine ds_ic_lt (show decode mt_X8_seek.2.1 2 = .ok (.if_icmp .lt 18, 3) from ds_dec (i := (2, .if_icmp .lt 18, 3, 0, 0, 0, .int 0)) ok_X8_seek 2 rfl) (t := 20) (by decide) (fun hc => ?_) (fun hc => ?_)
  · replace h := h.1 hc
    refine ds_blk (ls2 := [some (.ref 0), some (.int a1), some (.int a2)]) (st2 := [.int (-2 : Int32)]) (σ2 := σ) ok_X8_seek 11 1 20 22 [] rfl rfl rfl rfl trivial ?_
    exact ds_iret (show decode mt_X8_seek.2.1 22 = .ok (.ireturn, 1) from ds_dec (i := (22, .ireturn, 1, 0, 0, 0, .int 0)) ok_X8_seek 12 rfl) rfl h
  · replace h := h.2 hc
    refine ds_blk (ls2 := [some (.ref 0), some (.int a1), some (.int a2)]) (st2 := [.int (2 : Int32), .int a1]) (σ2 := σ) ok_X8_seek 3 2 5 7 [] rfl rfl rfl rfl trivial ?_
    refine ds_ic_gt (show decode mt_X8_seek.2.1 7 = .ok (.if_icmp .gt 13, 3) from ds_dec (i := (7, .if_icmp .gt 13, 3, 0, 0, 0, .int 0)) ok_X8_seek 5 rfl) (t := 20) (by decide) (fun hc => ?_) (fun hc => ?_)
    · replace h := h.1 hc
      refine ds_blk (ls2 := [some (.ref 0), some (.int a1), some (.int a2)]) (st2 := [.int (-2 : Int32)]) (σ2 := σ) ok_X8_seek 11 1 20 22 [] rfl rfl rfl rfl trivial ?_
      exact ds_iret (show decode mt_X8_seek.2.1 22 = .ok (.ireturn, 1) from ds_dec (i := (22, .ireturn, 1, 0, 0, 0, .int 0)) ok_X8_seek 12 rfl) rfl h
    · replace h := h.2 hc
      refine ds_blk (ls2 := [some (.ref 0), some (.int a1), some (.int a2)]) (st2 := [.int a2]) (σ2 := σ) ok_X8_seek 6 1 10 11 [] rfl rfl rfl rfl trivial ?_
      refine ds_if_lt (show decode mt_X8_seek.2.1 11 = .ok (.ifCond .lt 9, 3) from ds_dec (i := (11, .ifCond .lt 9, 3, 0, 0, 0, .int 0)) ok_X8_seek 7 rfl) (t := 20) (by decide) (fun hc => ?_) (fun hc => ?_)
      · replace h := h.1 hc
        refine ds_blk (ls2 := [some (.ref 0), some (.int a1), some (.int a2)]) (st2 := [.int (-2 : Int32)]) (σ2 := σ) ok_X8_seek 11 1 20 22 [] rfl rfl rfl rfl trivial ?_
        exact ds_iret (show decode mt_X8_seek.2.1 22 = .ok (.ireturn, 1) from ds_dec (i := (22, .ireturn, 1, 0, 0, 0, .int 0)) ok_X8_seek 12 rfl) rfl h
      · replace h := h.2 hc
        refine ds_blk (ls2 := [some (.ref 0), some (.int a1), some (.int a2)]) (st2 := [.int (10 : Int32), .int a2]) (σ2 := σ) ok_X8_seek 8 2 14 17 [] rfl rfl rfl rfl trivial ?_
        refine ds_ic_le (show decode mt_X8_seek.2.1 17 = .ok (.if_icmp .le 6, 3) from ds_dec (i := (17, .if_icmp .le 6, 3, 0, 0, 0, .int 0)) ok_X8_seek 10 rfl) (t := 23) (by decide) (fun hc => ?_) (fun hc => ?_)
        · replace h := h.1 hc
          refine ds_blk (ls2 := [some (.ref 0), some (.int a1), some (.int a2)]) (st2 := [.int a2, .int a1, .ref 14]) (σ2 := σ) ok_X8_seek 13 4 23 29 [ds_k Yc 0 8] rfl rfl rfl rfl ⟨⟨by decide, rfl⟩, trivial⟩ ?_
          refine ds_callV (z := mt_X5_search) (b := 14) (as := [.int a1, .int a2]) (rest := []) (show decode mt_X8_seek.2.1 29 = .ok (.invokevirtual 221, 3) from ds_dec (i := (29, .invokevirtual 221, 3, 0, 0, 580, .int 0)) ok_X8_seek 17 rfl) (ds_E.mono h (fun r σ1 hr => ?_)) ⟨zw_X5_search.1, zw_X5_search.2.1, zw_X5_search.2.2, by decide, by decide⟩ (ds_wb_T (p := 580) (by decide +kernel)) zi_X5_search zs_X5_search (by decide) rfl ⟨_, rfl, rfl⟩ (Nat.le_of_ble_eq_true rfl)
          obtain ⟨rfl, h⟩ := hr
          show ds_X mt_X8_seek Yc 32 [some (.ref 0), some (.int a1), some (.int a2)] [] σ1 Q
          refine ds_blk (ls2 := [some (.ref 0), some (.int a1), some (.int a2)]) (st2 := [.int (σ1.1 14 3)]) (σ2 := σ1) ok_X8_seek 18 3 32 39 [ds_k Yc 0 8, ds_k Yc 14 5] rfl rfl rfl rfl ⟨⟨by decide, rfl⟩, ⟨by decide, rfl⟩, trivial⟩ ?_
          exact ds_iret (show decode mt_X8_seek.2.1 39 = .ok (.ireturn, 1) from ds_dec (i := (39, .ireturn, 1, 0, 0, 0, .int 0)) ok_X8_seek 21 rfl) rfl h
        · replace h := h.2 hc
          refine ds_blk (ls2 := [some (.ref 0), some (.int a1), some (.int a2)]) (st2 := [.int (-2 : Int32)]) (σ2 := σ) ok_X8_seek 11 1 20 22 [] rfl rfl rfl rfl trivial ?_
          exact ds_iret (show decode mt_X8_seek.2.1 22 = .ok (.ireturn, 1) from ds_dec (i := (22, .ireturn, 1, 0, 0, 0, .int 0)) ok_X8_seek 12 rfl) rfl h
def w_X8_sought (a1 : Int32) (σ : ds_S) (Q : Option Value → ds_S → Prop) : Prop := ((¬ (σ.1 14 2) = 0 → ((¬ (q_rng a1 0 (σ.1 1 1)) = 0 → vp_in a1 10 ∧ Q (some (.int (σ.1 15 a1.toNatClampNeg))) σ) ∧ ((q_rng a1 0 (σ.1 1 1)) = 0 → Q (some (.int (-1 : Int32))) σ))) ∧ ((σ.1 14 2) = 0 → Q (some (.int (-3 : Int32))) σ))
theorem e_X8_sought (a1 : Int32) (σ : ds_S) (Q : Option Value → ds_S → Prop) (h : w_X8_sought a1 σ Q) : ds_E mt_X8_sought Yc [.ref 0, .int a1] σ Q := by
  refine ds_enter (by decide) (Nat.le_of_ble_eq_true rfl) ?_
  show ds_X mt_X8_sought Yc 0 [some (.ref 0), some (.int a1)] [] σ Q
  unfold w_X8_sought at h
  refine ds_blk (ls2 := [some (.ref 0), some (.int a1)]) (st2 := [.int (σ.1 14 2)]) (σ2 := σ) ok_X8_sought 0 3 0 7 [ds_k Yc 0 8, ds_k Yc 14 5] rfl rfl rfl rfl ⟨⟨by decide, rfl⟩, ⟨by decide, rfl⟩, trivial⟩ ?_
  refine ds_if_ne (show decode mt_X8_sought.2.1 7 = .ok (.ifCond .ne 6, 3) from ds_dec (i := (7, .ifCond .ne 6, 3, 0, 0, 0, .int 0)) ok_X8_sought 3 rfl) (t := 13) (by decide) (fun hc => ?_) (fun hc => ?_)
  · replace h := h.1 hc
    refine ds_blk (ls2 := [some (.ref 0), some (.int a1)]) (st2 := [.int a1, .ref 1]) (σ2 := σ) ok_X8_sought 6 3 13 18 [ds_k Yc 0 8] rfl rfl rfl rfl ⟨⟨by decide, rfl⟩, trivial⟩ ?_
    refine ds_callV (z := mt_X1_hasLine) (b := 1) (as := [.int a1]) (rest := []) (show decode mt_X8_sought.2.1 18 = .ok (.invokevirtual 105, 3) from ds_dec (i := (18, .invokevirtual 105, 3, 0, 0, 391, .int 0)) ok_X8_sought 9 rfl) (ds_E.mono (sp_X1_hasLine a1 σ ) (fun r σ1 hr => ?_)) ⟨zw_X1_hasLine.1, zw_X1_hasLine.2.1, zw_X1_hasLine.2.2, by decide, by decide⟩ (ds_wb_T (p := 391) (by decide +kernel)) zi_X1_hasLine zs_X1_hasLine (by decide) rfl ⟨_, rfl, rfl⟩ (Nat.le_of_ble_eq_true rfl)
    obtain ⟨x9, rfl, e8, e9⟩ := hr
    rw [e8, e9]
    show ds_X mt_X8_sought Yc 21 [some (.ref 0), some (.int a1)] [.int (q_rng a1 0 (σ.1 1 1))] σ Q
    refine ds_if_ne (show decode mt_X8_sought.2.1 21 = .ok (.ifCond .ne 5, 3) from ds_dec (i := (21, .ifCond .ne 5, 3, 0, 0, 0, .int 0)) ok_X8_sought 10 rfl) (t := 26) (by decide) (fun hc => ?_) (fun hc => ?_)
    · replace h := h.1 hc
      obtain ⟨o1, h⟩ := h
      refine ds_blk (ls2 := [some (.ref 0), some (.int a1)]) (st2 := [.int (σ.1 15 a1.toNatClampNeg)]) (σ2 := σ) ok_X8_sought 13 5 26 35 [ds_k Yc 0 8, ds_k Yc 14 5, ds_k Yc 15 10, vp_in a1 10] rfl rfl rfl rfl ⟨⟨by decide, rfl⟩, ⟨by decide, rfl⟩, ⟨by decide, rfl⟩, o1, trivial⟩ ?_
      exact ds_iret (show decode mt_X8_sought.2.1 35 = .ok (.ireturn, 1) from ds_dec (i := (35, .ireturn, 1, 0, 0, 0, .int 0)) ok_X8_sought 18 rfl) rfl h
    · replace h := h.2 hc
      refine ds_blk (ls2 := [some (.ref 0), some (.int a1)]) (st2 := [.int (-1 : Int32)]) (σ2 := σ) ok_X8_sought 11 1 24 25 [] rfl rfl rfl rfl trivial ?_
      exact ds_iret (show decode mt_X8_sought.2.1 25 = .ok (.ireturn, 1) from ds_dec (i := (25, .ireturn, 1, 0, 0, 0, .int 0)) ok_X8_sought 12 rfl) rfl h
  · replace h := h.2 hc
    refine ds_blk (ls2 := [some (.ref 0), some (.int a1)]) (st2 := [.int (-3 : Int32)]) (σ2 := σ) ok_X8_sought 4 1 10 12 [] rfl rfl rfl rfl trivial ?_
    exact ds_iret (show decode mt_X8_sought.2.1 12 = .ok (.ireturn, 1) from ds_dec (i := (12, .ireturn, 1, 0, 0, 0, .int 0)) ok_X8_sought 5 rfl) rfl h
def w_X8_better (a1 : Int32) (σ : ds_S) (Q : Option Value → ds_S → Prop) : Prop := ((¬ (σ.1 14 2) = 0 → ((¬ (q_rng a1 0 2) = 0 → 0 ≤ (σ.2 16 0) ∧ 0 ≤ ((151200 : Int64) * (σ.1 16 1).toInt64) ∧ ((151200 : Int64) * (σ.1 16 1).toInt64) < 562949953421312 ∧ Q (some (.long (q_low0 (σ.2 16 0) ((151200 : Int64) * (σ.1 16 1).toInt64) a1))) σ) ∧ ((q_rng a1 0 2) = 0 → Q (some (.long (-1000000000000000002 : Int64))) σ))) ∧ ((σ.1 14 2) = 0 → Q (some (.long (-1000000000000000003 : Int64))) σ))
theorem e_X8_better (a1 : Int32) (σ : ds_S) (Q : Option Value → ds_S → Prop) (h : w_X8_better a1 σ Q) : ds_E mt_X8_better Yc [.ref 0, .int a1] σ Q := by
  refine ds_enter (by decide) (Nat.le_of_ble_eq_true rfl) ?_
  show ds_X mt_X8_better Yc 0 [some (.ref 0), some (.int a1)] [] σ Q
  unfold w_X8_better at h
  refine ds_blk (ls2 := [some (.ref 0), some (.int a1)]) (st2 := [.int (σ.1 14 2)]) (σ2 := σ) ok_X8_better 0 3 0 7 [ds_k Yc 0 8, ds_k Yc 14 5] rfl rfl rfl rfl ⟨⟨by decide, rfl⟩, ⟨by decide, rfl⟩, trivial⟩ ?_
  refine ds_if_ne (show decode mt_X8_better.2.1 7 = .ok (.ifCond .ne 7, 3) from ds_dec (i := (7, .ifCond .ne 7, 3, 0, 0, 0, .int 0)) ok_X8_better 3 rfl) (t := 14) (by decide) (fun hc => ?_) (fun hc => ?_)
  · replace h := h.1 hc
    refine ds_blk (ls2 := [some (.ref 0), some (.int a1)]) (st2 := [.int a1]) (σ2 := σ) ok_X8_better 6 1 14 15 [] rfl rfl rfl rfl trivial ?_
    refine ds_callS (z := mt_X8_isOneOfTwo) (as := [.int a1]) (rest := []) (show decode mt_X8_better.2.1 15 = .ok (.invokestatic 130, 3) from ds_dec (i := (15, .invokestatic 130, 3, 0, 0, 406, .int 0)) ok_X8_better 7 rfl) (ds_E.mono (sp_X8_isOneOfTwo a1 σ ) (fun r σ1 hr => ?_)) ⟨zw_X8_isOneOfTwo.1, zw_X8_isOneOfTwo.2.1, zw_X8_isOneOfTwo.2.2, by decide, by decide⟩ (ds_wb_T (p := 406) (by decide +kernel)) zt_X8_isOneOfTwo (Nat.le_of_ble_eq_true rfl)
    obtain ⟨x9, rfl, e8, e9⟩ := hr
    rw [e8, e9]
    show ds_X mt_X8_better Yc 18 [some (.ref 0), some (.int a1)] [.int (q_rng a1 0 2)] σ Q
    refine ds_if_ne (show decode mt_X8_better.2.1 18 = .ok (.ifCond .ne 7, 3) from ds_dec (i := (18, .ifCond .ne 7, 3, 0, 0, 0, .int 0)) ok_X8_better 8 rfl) (t := 25) (by decide) (fun hc => ?_) (fun hc => ?_)
    · replace h := h.1 hc
      refine ds_blk (ls2 := [some (.ref 0), some (.int a1)]) (st2 := [.int a1, .long ((151200 : Int64) * (σ.1 16 1).toInt64), .long (σ.2 16 0)]) (σ2 := σ) ok_X8_better 11 12 25 51 [ds_k Yc 0 8, ds_k Yc 14 5, ds_k Yc 16 3, ds_k Yc 0 8, ds_k Yc 14 5, ds_k Yc 16 3] rfl rfl rfl rfl ⟨⟨by decide, rfl⟩, ⟨by decide, rfl⟩, ⟨by decide, rfl⟩, ⟨by decide, rfl⟩, ⟨by decide, rfl⟩, ⟨by decide, rfl⟩, trivial⟩ ?_
      obtain ⟨o1, o2, o3, h⟩ := h
      refine ds_callS (z := mt_X8_fraction) (as := [.long (σ.2 16 0), .long ((151200 : Int64) * (σ.1 16 1).toInt64), .int a1]) (rest := []) (show decode mt_X8_better.2.1 51 = .ok (.invokestatic 175, 3) from ds_dec (i := (51, .invokestatic 175, 3, 0, 0, 482, .int 0)) ok_X8_better 23 rfl) (ds_E.mono (sp_X8_fraction (σ.2 16 0) ((151200 : Int64) * (σ.1 16 1).toInt64) a1 σ o1 o2 o3) (fun r σ2 hr => ?_)) ⟨zw_X8_fraction.1, zw_X8_fraction.2.1, zw_X8_fraction.2.2, by decide, by decide⟩ (ds_wb_T (p := 482) (by decide +kernel)) zt_X8_fraction (Nat.le_of_ble_eq_true rfl)
      obtain ⟨x9, rfl, e8, e9⟩ := hr
      rw [e8, e9]
      show ds_X mt_X8_better Yc 54 [some (.ref 0), some (.int a1)] [.long (q_low0 (σ.2 16 0) ((151200 : Int64) * (σ.1 16 1).toInt64) a1)] σ Q
      exact ds_lret (show decode mt_X8_better.2.1 54 = .ok (.lreturn, 1) from ds_dec (i := (54, .lreturn, 1, 0, 0, 0, .int 0)) ok_X8_better 24 rfl) rfl h
    · replace h := h.2 hc
      refine ds_blk (ls2 := [some (.ref 0), some (.int a1)]) (st2 := [.long (-1000000000000000002 : Int64)]) (σ2 := σ) ok_X8_better 9 1 21 24 [] rfl rfl rfl rfl trivial ?_
      exact ds_lret (show decode mt_X8_better.2.1 24 = .ok (.lreturn, 1) from ds_dec (i := (24, .lreturn, 1, 0, 0, 0, .int 0)) ok_X8_better 10 rfl) rfl h
  · replace h := h.2 hc
    refine ds_blk (ls2 := [some (.ref 0), some (.int a1)]) (st2 := [.long (-1000000000000000003 : Int64)]) (σ2 := σ) ok_X8_better 4 1 10 13 [] rfl rfl rfl rfl trivial ?_
    exact ds_lret (show decode mt_X8_better.2.1 13 = .ok (.lreturn, 1) from ds_dec (i := (13, .lreturn, 1, 0, 0, 0, .int 0)) ok_X8_better 5 rfl) rfl h
def w_X8_take (σ : ds_S) (Q : Option Value → ds_S → Prop) : Prop := ((¬ (σ.1 14 2) = 0 → ds_EV mt_X5_forget Yc [.ref 14] (ds_cp σ 15 64 10) (fun σ1 => Q (some (.int (σ1.1 14 3))) σ1)) ∧ ((σ.1 14 2) = 0 → Q (some (.int (-3 : Int32))) σ))
theorem e_X8_take (σ : ds_S) (Q : Option Value → ds_S → Prop) (h : w_X8_take σ Q) : ds_E mt_X8_take Yc [.ref 0] σ Q := by
  refine ds_enter (by decide) (Nat.le_of_ble_eq_true rfl) ?_
  show ds_X mt_X8_take Yc 0 [some (.ref 0)] [] σ Q
  unfold w_X8_take at h
  refine ds_blk (ls2 := [some (.ref 0)]) (st2 := [.int (σ.1 14 2)]) (σ2 := σ) ok_X8_take 0 3 0 7 [ds_k Yc 0 8, ds_k Yc 14 5] rfl rfl rfl rfl ⟨⟨by decide, rfl⟩, ⟨by decide, rfl⟩, trivial⟩ ?_
  refine ds_if_ne (show decode mt_X8_take.2.1 7 = .ok (.ifCond .ne 6, 3) from ds_dec (i := (7, .ifCond .ne 6, 3, 0, 0, 0, .int 0)) ok_X8_take 3 rfl) (t := 13) (by decide) (fun hc => ?_) (fun hc => ?_)
  · replace h := h.1 hc
    refine ds_blk (ls2 := [some (.ref 0)]) (st2 := [.int (10 : Int32), .int (0 : Int32), .ref 64, .int (0 : Int32), .ref 15]) (σ2 := σ) ok_X8_take 6 9 13 31 [ds_k Yc 0 8, ds_k Yc 14 5, ds_k Yc 0 8, ds_k Yc 1 1] rfl rfl rfl rfl ⟨⟨by decide, rfl⟩, ⟨by decide, rfl⟩, ⟨by decide, rfl⟩, ⟨by decide, rfl⟩, trivial⟩ ?_
    refine ds_copy (a := 15) (b := 64) (st := []) (show decode mt_X8_take.2.1 31 = .ok (.invokestatic 239, 3) from ds_dec (i := (31, .invokestatic 239, 3, 0, 0, 628, .int 0)) ok_X8_take 15 rfl) (ds_wb_T (p := 628) (by decide +kernel)) ds_ac1 ds_ac2 ds_ac3 (by decide) rfl (by decide) rfl (by decide) (by decide) (by decide) (by decide) (by decide) (by decide) (by decide) ?_
    show ds_X mt_X8_take Yc 34 [some (.ref 0)] [] (ds_cp σ 15 64 10) Q
    refine ds_blk (ls2 := [some (.ref 0)]) (st2 := [.ref 14]) (σ2 := (ds_cp σ 15 64 10)) ok_X8_take 16 2 34 38 [ds_k Yc 0 8] rfl rfl rfl rfl ⟨⟨by decide, rfl⟩, trivial⟩ ?_
    refine ds_callV (z := mt_X5_forget) (b := 14) (as := []) (rest := []) (show decode mt_X8_take.2.1 38 = .ok (.invokevirtual 87, 3) from ds_dec (i := (38, .invokevirtual 87, 3, 0, 0, 364, .int 0)) ok_X8_take 18 rfl) (ds_E.mono h (fun r σ1 hr => ?_)) ⟨zw_X5_forget.1, zw_X5_forget.2.1, zw_X5_forget.2.2, by decide, by decide⟩ (ds_wb_T (p := 364) (by decide +kernel)) zi_X5_forget zs_X5_forget (by decide) rfl ⟨_, rfl, rfl⟩ (Nat.le_of_ble_eq_true rfl)
    obtain ⟨rfl, h⟩ := hr
    show ds_X mt_X8_take Yc 41 [some (.ref 0)] [] σ1 Q
    refine ds_blk (ls2 := [some (.ref 0)]) (st2 := [.int (σ1.1 14 3)]) (σ2 := σ1) ok_X8_take 19 3 41 48 [ds_k Yc 0 8, ds_k Yc 14 5] rfl rfl rfl rfl ⟨⟨by decide, rfl⟩, ⟨by decide, rfl⟩, trivial⟩ ?_
    exact ds_iret (show decode mt_X8_take.2.1 48 = .ok (.ireturn, 1) from ds_dec (i := (48, .ireturn, 1, 0, 0, 0, .int 0)) ok_X8_take 22 rfl) rfl h
  · replace h := h.2 hc
    refine ds_blk (ls2 := [some (.ref 0)]) (st2 := [.int (-3 : Int32)]) (σ2 := σ) ok_X8_take 4 1 10 12 [] rfl rfl rfl rfl trivial ?_
    exact ds_iret (show decode mt_X8_take.2.1 12 = .ok (.ireturn, 1) from ds_dec (i := (12, .ireturn, 1, 0, 0, 0, .int 0)) ok_X8_take 5 rfl) rfl h
def w_X8_ring (a1 : Int32) (a2 : Int32) (σ : ds_S) (Q : Option Value → ds_S → Prop) : Prop := ds_EI mt_X8_refusalOfNews Yc [.ref 0, .int a1, .int a2] σ (fun r1 σ1 => ((r1 = 0 → ds_EI mt_X2_firstRing Yc [.ref 56, .int a1, .int a2] σ1 (fun r2 σ2 => Q (some (.int r2)) σ2)) ∧ (¬ r1 = 0 → Q (some (.int r1)) σ1)))
theorem e_X8_ring (a1 : Int32) (a2 : Int32) (σ : ds_S) (Q : Option Value → ds_S → Prop) (h : w_X8_ring a1 a2 σ Q) : ds_E mt_X8_ring Yc [.ref 0, .int a1, .int a2] σ Q := by
  refine ds_enter (by decide) (Nat.le_of_ble_eq_true rfl) ?_
  show ds_X mt_X8_ring Yc 0 [some (.ref 0), some (.int a1), some (.int a2), none] [] σ Q
  unfold w_X8_ring at h
  refine ds_blk (ls2 := [some (.ref 0), some (.int a1), some (.int a2), none]) (st2 := [.int a2, .int a1, .ref 0]) (σ2 := σ) ok_X8_ring 0 3 0 3 [] rfl rfl rfl rfl trivial ?_
  refine ds_callV (z := mt_X8_refusalOfNews) (b := 0) (as := [.int a1, .int a2]) (rest := []) (show decode mt_X8_ring.2.1 3 = .ok (.invokevirtual 245, 3) from ds_dec (i := (3, .invokevirtual 245, 3, 0, 0, 633, .int 0)) ok_X8_ring 3 rfl) (ds_E.mono h (fun r σ1 hr => ?_)) ⟨zw_X8_refusalOfNews.1, zw_X8_refusalOfNews.2.1, zw_X8_refusalOfNews.2.2, by decide, by decide⟩ (ds_wb_T (p := 633) (by decide +kernel)) zi_X8_refusalOfNews zs_X8_refusalOfNews (by decide) rfl ⟨_, rfl, rfl⟩ (Nat.le_of_ble_eq_true rfl)
  obtain ⟨r1, rfl, h⟩ := hr
  show ds_X mt_X8_ring Yc 6 [some (.ref 0), some (.int a1), some (.int a2), none] [.int r1] σ1 Q
  refine ds_blk (ls2 := [some (.ref 0), some (.int a1), some (.int a2), some (.int r1)]) (st2 := [.int r1]) (σ2 := σ1) ok_X8_ring 4 2 6 8 [] rfl rfl rfl rfl trivial ?_
  refine ds_if_eq (show decode mt_X8_ring.2.1 8 = .ok (.ifCond .eq 7, 3) from ds_dec (i := (8, .ifCond .eq 7, 3, 0, 0, 0, .int 0)) ok_X8_ring 6 rfl) (t := 15) (by decide) (fun hc => ?_) (fun hc => ?_)
  · replace h := h.1 hc
    refine ds_blk (ls2 := [some (.ref 0), some (.int a1), some (.int a2), some (.int r1)]) (st2 := [.int a2, .int a1, .ref 56]) (σ2 := σ1) ok_X8_ring 9 4 15 21 [ds_k Yc 0 8] rfl rfl rfl rfl ⟨⟨by decide, rfl⟩, trivial⟩ ?_
    refine ds_callV (z := mt_X2_firstRing) (b := 56) (as := [.int a1, .int a2]) (rest := []) (show decode mt_X8_ring.2.1 21 = .ok (.invokevirtual 248, 3) from ds_dec (i := (21, .invokevirtual 248, 3, 0, 0, 637, .int 0)) ok_X8_ring 13 rfl) (ds_E.mono h (fun r σ2 hr => ?_)) ⟨zw_X2_firstRing.1, zw_X2_firstRing.2.1, zw_X2_firstRing.2.2, by decide, by decide⟩ (ds_wb_T (p := 637) (by decide +kernel)) zi_X2_firstRing zs_X2_firstRing (by decide) rfl ⟨_, rfl, rfl⟩ (Nat.le_of_ble_eq_true rfl)
    obtain ⟨r2, rfl, h⟩ := hr
    show ds_X mt_X8_ring Yc 24 [some (.ref 0), some (.int a1), some (.int a2), some (.int r1)] [.int r2] σ2 Q
    exact ds_iret (show decode mt_X8_ring.2.1 24 = .ok (.ireturn, 1) from ds_dec (i := (24, .ireturn, 1, 0, 0, 0, .int 0)) ok_X8_ring 14 rfl) rfl h
  · replace h := h.2 hc
    refine ds_blk (ls2 := [some (.ref 0), some (.int a1), some (.int a2), some (.int r1)]) (st2 := [.int r1]) (σ2 := σ1) ok_X8_ring 7 1 11 12 [] rfl rfl rfl rfl trivial ?_
    refine ds_goto (show decode mt_X8_ring.2.1 12 = .ok (.goto 12, 3) from ds_dec (i := (12, .goto 12, 3, 0, 0, 0, .int 0)) ok_X8_ring 8 rfl) (t := 24) (by decide) ?_
    exact ds_iret (show decode mt_X8_ring.2.1 24 = .ok (.ireturn, 1) from ds_dec (i := (24, .ireturn, 1, 0, 0, 0, .int 0)) ok_X8_ring 14 rfl) rfl h
def w_X8_between (a1 : Int32) (a2 : Int32) (σ : ds_S) (Q : Option Value → ds_S → Prop) : Prop := ds_EI mt_X8_refusalOfNews Yc [.ref 0, .int a1, .int a2] σ (fun r1 σ1 => ((r1 = 0 → ds_EI mt_X2_countChanges Yc [.ref 56, .int a1, .int a2] σ1 (fun r2 σ2 => Q (some (.int r2)) σ2)) ∧ (¬ r1 = 0 → Q (some (.int r1)) σ1)))
theorem e_X8_between (a1 : Int32) (a2 : Int32) (σ : ds_S) (Q : Option Value → ds_S → Prop) (h : w_X8_between a1 a2 σ Q) : ds_E mt_X8_between Yc [.ref 0, .int a1, .int a2] σ Q := by
  refine ds_enter (by decide) (Nat.le_of_ble_eq_true rfl) ?_
  show ds_X mt_X8_between Yc 0 [some (.ref 0), some (.int a1), some (.int a2), none] [] σ Q
  unfold w_X8_between at h
  refine ds_blk (ls2 := [some (.ref 0), some (.int a1), some (.int a2), none]) (st2 := [.int a2, .int a1, .ref 0]) (σ2 := σ) ok_X8_between 0 3 0 3 [] rfl rfl rfl rfl trivial ?_
  refine ds_callV (z := mt_X8_refusalOfNews) (b := 0) (as := [.int a1, .int a2]) (rest := []) (show decode mt_X8_between.2.1 3 = .ok (.invokevirtual 245, 3) from ds_dec (i := (3, .invokevirtual 245, 3, 0, 0, 633, .int 0)) ok_X8_between 3 rfl) (ds_E.mono h (fun r σ1 hr => ?_)) ⟨zw_X8_refusalOfNews.1, zw_X8_refusalOfNews.2.1, zw_X8_refusalOfNews.2.2, by decide, by decide⟩ (ds_wb_T (p := 633) (by decide +kernel)) zi_X8_refusalOfNews zs_X8_refusalOfNews (by decide) rfl ⟨_, rfl, rfl⟩ (Nat.le_of_ble_eq_true rfl)
  obtain ⟨r1, rfl, h⟩ := hr
  show ds_X mt_X8_between Yc 6 [some (.ref 0), some (.int a1), some (.int a2), none] [.int r1] σ1 Q
  refine ds_blk (ls2 := [some (.ref 0), some (.int a1), some (.int a2), some (.int r1)]) (st2 := [.int r1]) (σ2 := σ1) ok_X8_between 4 2 6 8 [] rfl rfl rfl rfl trivial ?_
  refine ds_if_eq (show decode mt_X8_between.2.1 8 = .ok (.ifCond .eq 7, 3) from ds_dec (i := (8, .ifCond .eq 7, 3, 0, 0, 0, .int 0)) ok_X8_between 6 rfl) (t := 15) (by decide) (fun hc => ?_) (fun hc => ?_)
  · replace h := h.1 hc
    refine ds_blk (ls2 := [some (.ref 0), some (.int a1), some (.int a2), some (.int r1)]) (st2 := [.int a2, .int a1, .ref 56]) (σ2 := σ1) ok_X8_between 9 4 15 21 [ds_k Yc 0 8] rfl rfl rfl rfl ⟨⟨by decide, rfl⟩, trivial⟩ ?_
    refine ds_callV (z := mt_X2_countChanges) (b := 56) (as := [.int a1, .int a2]) (rest := []) (show decode mt_X8_between.2.1 21 = .ok (.invokevirtual 251, 3) from ds_dec (i := (21, .invokevirtual 251, 3, 0, 0, 666, .int 0)) ok_X8_between 13 rfl) (ds_E.mono h (fun r σ2 hr => ?_)) ⟨zw_X2_countChanges.1, zw_X2_countChanges.2.1, zw_X2_countChanges.2.2, by decide, by decide⟩ (ds_wb_T (p := 666) (by decide +kernel)) zi_X2_countChanges zs_X2_countChanges (by decide) rfl ⟨_, rfl, rfl⟩ (Nat.le_of_ble_eq_true rfl)
    obtain ⟨r2, rfl, h⟩ := hr
    show ds_X mt_X8_between Yc 24 [some (.ref 0), some (.int a1), some (.int a2), some (.int r1)] [.int r2] σ2 Q
    exact ds_iret (show decode mt_X8_between.2.1 24 = .ok (.ireturn, 1) from ds_dec (i := (24, .ireturn, 1, 0, 0, 0, .int 0)) ok_X8_between 14 rfl) rfl h
  · replace h := h.2 hc
    refine ds_blk (ls2 := [some (.ref 0), some (.int a1), some (.int a2), some (.int r1)]) (st2 := [.int r1]) (σ2 := σ1) ok_X8_between 7 1 11 12 [] rfl rfl rfl rfl trivial ?_
    refine ds_goto (show decode mt_X8_between.2.1 12 = .ok (.goto 12, 3) from ds_dec (i := (12, .goto 12, 3, 0, 0, 0, .int 0)) ok_X8_between 8 rfl) (t := 24) (by decide) ?_
    exact ds_iret (show decode mt_X8_between.2.1 24 = .ok (.ireturn, 1) from ds_dec (i := (24, .ireturn, 1, 0, 0, 0, .int 0)) ok_X8_between 14 rfl) rfl h
def w_X8_value (a1 : Int32) (a2 : Int32) (a3 : Int32) (σ : ds_S) (Q : Option Value → ds_S → Prop) : Prop := ds_EI mt_X8_refusalOfNews Yc [.ref 0, .int a1, .int a2] σ (fun r1 σ1 => ((r1 = 0 → ds_EI mt_X2_valueAt Yc [.ref 56, .int a1, .int a2, .int a3] σ1 (fun r2 σ2 => Q (some (.int r2)) σ2)) ∧ (¬ r1 = 0 → Q (some (.int r1)) σ1)))
theorem e_X8_value (a1 : Int32) (a2 : Int32) (a3 : Int32) (σ : ds_S) (Q : Option Value → ds_S → Prop) (h : w_X8_value a1 a2 a3 σ Q) : ds_E mt_X8_value Yc [.ref 0, .int a1, .int a2, .int a3] σ Q := by
  refine ds_enter (by decide) (Nat.le_of_ble_eq_true rfl) ?_
  show ds_X mt_X8_value Yc 0 [some (.ref 0), some (.int a1), some (.int a2), some (.int a3), none] [] σ Q
  unfold w_X8_value at h
  refine ds_blk (ls2 := [some (.ref 0), some (.int a1), some (.int a2), some (.int a3), none]) (st2 := [.int a2, .int a1, .ref 0]) (σ2 := σ) ok_X8_value 0 3 0 3 [] rfl rfl rfl rfl trivial ?_
  refine ds_callV (z := mt_X8_refusalOfNews) (b := 0) (as := [.int a1, .int a2]) (rest := []) (show decode mt_X8_value.2.1 3 = .ok (.invokevirtual 245, 3) from ds_dec (i := (3, .invokevirtual 245, 3, 0, 0, 633, .int 0)) ok_X8_value 3 rfl) (ds_E.mono h (fun r σ1 hr => ?_)) ⟨zw_X8_refusalOfNews.1, zw_X8_refusalOfNews.2.1, zw_X8_refusalOfNews.2.2, by decide, by decide⟩ (ds_wb_T (p := 633) (by decide +kernel)) zi_X8_refusalOfNews zs_X8_refusalOfNews (by decide) rfl ⟨_, rfl, rfl⟩ (Nat.le_of_ble_eq_true rfl)
  obtain ⟨r1, rfl, h⟩ := hr
  show ds_X mt_X8_value Yc 6 [some (.ref 0), some (.int a1), some (.int a2), some (.int a3), none] [.int r1] σ1 Q
  refine ds_blk (ls2 := [some (.ref 0), some (.int a1), some (.int a2), some (.int a3), some (.int r1)]) (st2 := [.int r1]) (σ2 := σ1) ok_X8_value 4 2 6 10 [] rfl rfl rfl rfl trivial ?_
  refine ds_if_eq (show decode mt_X8_value.2.1 10 = .ok (.ifCond .eq 8, 3) from ds_dec (i := (10, .ifCond .eq 8, 3, 0, 0, 0, .int 0)) ok_X8_value 6 rfl) (t := 18) (by decide) (fun hc => ?_) (fun hc => ?_)
  · replace h := h.1 hc
    refine ds_blk (ls2 := [some (.ref 0), some (.int a1), some (.int a2), some (.int a3), some (.int r1)]) (st2 := [.int a3, .int a2, .int a1, .ref 56]) (σ2 := σ1) ok_X8_value 9 5 18 25 [ds_k Yc 0 8] rfl rfl rfl rfl ⟨⟨by decide, rfl⟩, trivial⟩ ?_
    refine ds_callV (z := mt_X2_valueAt) (b := 56) (as := [.int a1, .int a2, .int a3]) (rest := []) (show decode mt_X8_value.2.1 25 = .ok (.invokevirtual 254, 3) from ds_dec (i := (25, .invokevirtual 254, 3, 0, 0, 683, .int 0)) ok_X8_value 14 rfl) (ds_E.mono h (fun r σ2 hr => ?_)) ⟨zw_X2_valueAt.1, zw_X2_valueAt.2.1, zw_X2_valueAt.2.2, by decide, by decide⟩ (ds_wb_T (p := 683) (by decide +kernel)) zi_X2_valueAt zs_X2_valueAt (by decide) rfl ⟨_, rfl, rfl⟩ (Nat.le_of_ble_eq_true rfl)
    obtain ⟨r2, rfl, h⟩ := hr
    show ds_X mt_X8_value Yc 28 [some (.ref 0), some (.int a1), some (.int a2), some (.int a3), some (.int r1)] [.int r2] σ2 Q
    exact ds_iret (show decode mt_X8_value.2.1 28 = .ok (.ireturn, 1) from ds_dec (i := (28, .ireturn, 1, 0, 0, 0, .int 0)) ok_X8_value 15 rfl) rfl h
  · replace h := h.2 hc
    refine ds_blk (ls2 := [some (.ref 0), some (.int a1), some (.int a2), some (.int a3), some (.int r1)]) (st2 := [.int r1]) (σ2 := σ1) ok_X8_value 7 1 13 15 [] rfl rfl rfl rfl trivial ?_
    refine ds_goto (show decode mt_X8_value.2.1 15 = .ok (.goto 13, 3) from ds_dec (i := (15, .goto 13, 3, 0, 0, 0, .int 0)) ok_X8_value 8 rfl) (t := 28) (by decide) ?_
    exact ds_iret (show decode mt_X8_value.2.1 28 = .ok (.ireturn, 1) from ds_dec (i := (28, .ireturn, 1, 0, 0, 0, .int 0)) ok_X8_value 15 rfl) rfl h
def w_X8_grow (a1 : Int32) (a2 : Int32) (σ : ds_S) (Q : Option Value → ds_S → Prop) : Prop := ((¬ (q_rng a1 0 3) = 0 → ((¬ (q_rng a2 0 2) = 0 → ds_EV mt_X8_findPeak Yc [.ref 0, .int a1] σ (fun σ3 => ((¬ (lg_cmp (σ3.2 11 0) (0 : Int64)) = 0 → 0 ≤ ((151200 : Int64) * (σ3.1 11 1).toInt64) ∧ 0 ≤ (σ3.2 11 0) ∧ (σ3.2 11 0) < 562949953421312 ∧ Q (some (.long (q_low0 ((151200 : Int64) * (σ3.1 11 1).toInt64) (σ3.2 11 0) a2))) σ3) ∧ ((lg_cmp (σ3.2 11 0) (0 : Int64)) = 0 → Q (some (.long (-1000000000000000006 : Int64))) σ3)))) ∧ ((q_rng a2 0 2) = 0 → Q (some (.long (-1000000000000000002 : Int64))) σ))) ∧ ((q_rng a1 0 3) = 0 → Q (some (.long (-1000000000000000001 : Int64))) σ))
theorem e_X8_grow (a1 : Int32) (a2 : Int32) (σ : ds_S) (Q : Option Value → ds_S → Prop) (h : w_X8_grow a1 a2 σ Q) : ds_E mt_X8_grow Yc [.ref 0, .int a1, .int a2] σ Q := by
  refine ds_enter (by decide) (Nat.le_of_ble_eq_true rfl) ?_
  show ds_X mt_X8_grow Yc 0 [some (.ref 0), some (.int a1), some (.int a2)] [] σ Q
  unfold w_X8_grow at h
  refine ds_blk (ls2 := [some (.ref 0), some (.int a1), some (.int a2)]) (st2 := [.int a1]) (σ2 := σ) ok_X8_grow 0 1 0 1 [] rfl rfl rfl rfl trivial ?_
  refine ds_callS (z := mt_X8_isTable) (as := [.int a1]) (rest := []) (show decode mt_X8_grow.2.1 1 = .ok (.invokestatic 137, 3) from ds_dec (i := (1, .invokestatic 137, 3, 0, 0, 416, .int 0)) ok_X8_grow 1 rfl) (ds_E.mono (sp_X8_isTable a1 σ ) (fun r σ1 hr => ?_)) ⟨zw_X8_isTable.1, zw_X8_isTable.2.1, zw_X8_isTable.2.2, by decide, by decide⟩ (ds_wb_T (p := 416) (by decide +kernel)) zt_X8_isTable (Nat.le_of_ble_eq_true rfl)
  obtain ⟨x9, rfl, e8, e9⟩ := hr
  rw [e8, e9]
  show ds_X mt_X8_grow Yc 4 [some (.ref 0), some (.int a1), some (.int a2)] [.int (q_rng a1 0 3)] σ Q
  refine ds_if_ne (show decode mt_X8_grow.2.1 4 = .ok (.ifCond .ne 7, 3) from ds_dec (i := (4, .ifCond .ne 7, 3, 0, 0, 0, .int 0)) ok_X8_grow 2 rfl) (t := 11) (by decide) (fun hc => ?_) (fun hc => ?_)
  · replace h := h.1 hc
    refine ds_blk (ls2 := [some (.ref 0), some (.int a1), some (.int a2)]) (st2 := [.int a2]) (σ2 := σ) ok_X8_grow 5 1 11 12 [] rfl rfl rfl rfl trivial ?_
    refine ds_callS (z := mt_X8_isOneOfTwo) (as := [.int a2]) (rest := []) (show decode mt_X8_grow.2.1 12 = .ok (.invokestatic 130, 3) from ds_dec (i := (12, .invokestatic 130, 3, 0, 0, 406, .int 0)) ok_X8_grow 6 rfl) (ds_E.mono (sp_X8_isOneOfTwo a2 σ ) (fun r σ2 hr => ?_)) ⟨zw_X8_isOneOfTwo.1, zw_X8_isOneOfTwo.2.1, zw_X8_isOneOfTwo.2.2, by decide, by decide⟩ (ds_wb_T (p := 406) (by decide +kernel)) zt_X8_isOneOfTwo (Nat.le_of_ble_eq_true rfl)
    obtain ⟨x9, rfl, e8, e9⟩ := hr
    rw [e8, e9]
    show ds_X mt_X8_grow Yc 15 [some (.ref 0), some (.int a1), some (.int a2)] [.int (q_rng a2 0 2)] σ Q
    refine ds_if_ne (show decode mt_X8_grow.2.1 15 = .ok (.ifCond .ne 7, 3) from ds_dec (i := (15, .ifCond .ne 7, 3, 0, 0, 0, .int 0)) ok_X8_grow 7 rfl) (t := 22) (by decide) (fun hc => ?_) (fun hc => ?_)
    · replace h := h.1 hc
      refine ds_blk (ls2 := [some (.ref 0), some (.int a1), some (.int a2)]) (st2 := [.int a1, .ref 0]) (σ2 := σ) ok_X8_grow 10 2 22 24 [] rfl rfl rfl rfl trivial ?_
      refine ds_callV (z := mt_X8_findPeak) (b := 0) (as := [.int a1]) (rest := []) (show decode mt_X8_grow.2.1 24 = .ok (.invokevirtual 187, 3) from ds_dec (i := (24, .invokevirtual 187, 3, 0, 0, 514, .int 0)) ok_X8_grow 12 rfl) (ds_E.mono h (fun r σ3 hr => ?_)) ⟨zw_X8_findPeak.1, zw_X8_findPeak.2.1, zw_X8_findPeak.2.2, by decide, by decide⟩ (ds_wb_T (p := 514) (by decide +kernel)) zi_X8_findPeak zs_X8_findPeak (by decide) rfl ⟨_, rfl, rfl⟩ (Nat.le_of_ble_eq_true rfl)
      obtain ⟨rfl, h⟩ := hr
      show ds_X mt_X8_grow Yc 27 [some (.ref 0), some (.int a1), some (.int a2)] [] σ3 Q
      refine ds_blk (ls2 := [some (.ref 0), some (.int a1), some (.int a2)]) (st2 := [.int (lg_cmp (σ3.2 11 0) (0 : Int64))]) (σ2 := σ3) ok_X8_grow 13 5 27 36 [ds_k Yc 0 8, ds_k Yc 11 3] rfl rfl rfl rfl ⟨⟨by decide, rfl⟩, ⟨by decide, rfl⟩, trivial⟩ ?_
      refine ds_if_ne (show decode mt_X8_grow.2.1 36 = .ok (.ifCond .ne 7, 3) from ds_dec (i := (36, .ifCond .ne 7, 3, 0, 0, 0, .int 0)) ok_X8_grow 18 rfl) (t := 43) (by decide) (fun hc => ?_) (fun hc => ?_)
      · replace h := h.1 hc
        refine ds_blk (ls2 := [some (.ref 0), some (.int a1), some (.int a2)]) (st2 := [.int a2, .long (σ3.2 11 0), .long ((151200 : Int64) * (σ3.1 11 1).toInt64)]) (σ2 := σ3) ok_X8_grow 21 10 43 63 [ds_k Yc 0 8, ds_k Yc 11 3, ds_k Yc 0 8, ds_k Yc 11 3] rfl rfl rfl rfl ⟨⟨by decide, rfl⟩, ⟨by decide, rfl⟩, ⟨by decide, rfl⟩, ⟨by decide, rfl⟩, trivial⟩ ?_
        obtain ⟨o1, o2, o3, h⟩ := h
        refine ds_callS (z := mt_X8_fraction) (as := [.long ((151200 : Int64) * (σ3.1 11 1).toInt64), .long (σ3.2 11 0), .int a2]) (rest := []) (show decode mt_X8_grow.2.1 63 = .ok (.invokestatic 175, 3) from ds_dec (i := (63, .invokestatic 175, 3, 0, 0, 482, .int 0)) ok_X8_grow 31 rfl) (ds_E.mono (sp_X8_fraction ((151200 : Int64) * (σ3.1 11 1).toInt64) (σ3.2 11 0) a2 σ3 o1 o2 o3) (fun r σ4 hr => ?_)) ⟨zw_X8_fraction.1, zw_X8_fraction.2.1, zw_X8_fraction.2.2, by decide, by decide⟩ (ds_wb_T (p := 482) (by decide +kernel)) zt_X8_fraction (Nat.le_of_ble_eq_true rfl)
        obtain ⟨x9, rfl, e8, e9⟩ := hr
        rw [e8, e9]
        show ds_X mt_X8_grow Yc 66 [some (.ref 0), some (.int a1), some (.int a2)] [.long (q_low0 ((151200 : Int64) * (σ3.1 11 1).toInt64) (σ3.2 11 0) a2)] σ3 Q
        exact ds_lret (show decode mt_X8_grow.2.1 66 = .ok (.lreturn, 1) from ds_dec (i := (66, .lreturn, 1, 0, 0, 0, .int 0)) ok_X8_grow 32 rfl) rfl h
      · replace h := h.2 hc
        refine ds_blk (ls2 := [some (.ref 0), some (.int a1), some (.int a2)]) (st2 := [.long (-1000000000000000006 : Int64)]) (σ2 := σ3) ok_X8_grow 19 1 39 42 [] rfl rfl rfl rfl trivial ?_
        exact ds_lret (show decode mt_X8_grow.2.1 42 = .ok (.lreturn, 1) from ds_dec (i := (42, .lreturn, 1, 0, 0, 0, .int 0)) ok_X8_grow 20 rfl) rfl h
    · replace h := h.2 hc
      refine ds_blk (ls2 := [some (.ref 0), some (.int a1), some (.int a2)]) (st2 := [.long (-1000000000000000002 : Int64)]) (σ2 := σ) ok_X8_grow 8 1 18 21 [] rfl rfl rfl rfl trivial ?_
      exact ds_lret (show decode mt_X8_grow.2.1 21 = .ok (.lreturn, 1) from ds_dec (i := (21, .lreturn, 1, 0, 0, 0, .int 0)) ok_X8_grow 9 rfl) rfl h
  · replace h := h.2 hc
    refine ds_blk (ls2 := [some (.ref 0), some (.int a1), some (.int a2)]) (st2 := [.long (-1000000000000000001 : Int64)]) (σ2 := σ) ok_X8_grow 3 1 7 10 [] rfl rfl rfl rfl trivial ?_
    exact ds_lret (show decode mt_X8_grow.2.1 10 = .ok (.lreturn, 1) from ds_dec (i := (10, .lreturn, 1, 0, 0, 0, .int 0)) ok_X8_grow 4 rfl) rfl h
def w_X8_year_54 : Nat → (v2 : Int32) → (v3 : Int32) → (σ : ds_S) → (Q : Option Value → ds_S → Prop) → Prop
  | 0, _, _, _, _ => False
  | f + 1, v2, v3, σ, Q => (((100 : Int32) ≤ v3 → Q (some (.int (-6 : Int32))) σ) ∧ (¬ (100 : Int32) ≤ v3 → ds_EV mt_X0_sendTable Yc [.ref 8, .ref 1, .ref 6, .ref 60] σ (fun σ1 => ds_EV mt_X3_clear Yc [.ref 11] σ1 (fun σ2 => ds_EV mt_X3_climb Yc [.ref 11, .ref 1, .ref 8] σ2 (fun σ3 => (((q_ab (σ3.2 11 0) (σ3.1 11 1)) = 0 → ds_EV mt_X8_growByHundredths Yc [.ref 0, .int v2] σ3 (fun σ5 => w_X8_year_54 f v2 (v3 + (1 : Int32)) σ5 Q)) ∧ (¬ (q_ab (σ3.2 11 0) (σ3.1 11 1)) = 0 → Q (some (.int v3)) σ3)))))))
theorem x_X8_year_54 : ∀ (f : Nat) (v2 : Int32) (v3 : Int32) (g1 : Option Value) (σ : ds_S) (Q : Option Value → ds_S → Prop), w_X8_year_54 f v2 v3 σ Q → ds_X mt_X8_year Yc 54 [some (.ref 0), g1, some (.int v2), some (.int v3)] [] σ Q := by
  intro f
  induction f with
  | zero => intro v2 v3 g1 σ Q h; exact False.elim h
  | succ f ih =>
    intro v2 v3 g1 σ Q h
    rw [w_X8_year_54] at h
    refine ds_blk (ls2 := [some (.ref 0), g1, some (.int v2), some (.int v3)]) (st2 := [.int (100 : Int32), .int v3]) (σ2 := σ) ok_X8_year 31 2 54 57 [] rfl rfl rfl rfl trivial ?_
    refine ds_ic_ge (show decode mt_X8_year.2.1 57 = .ok (.if_icmp .ge 67, 3) from ds_dec (i := (57, .if_icmp .ge 67, 3, 0, 0, 0, .int 0)) ok_X8_year 33 rfl) (t := 124) (by decide) (fun hc => ?_) (fun hc => ?_)
    · replace h := h.1 hc
      refine ds_blk (ls2 := [some (.ref 0), g1, some (.int v2), some (.int v3)]) (st2 := [.int (-6 : Int32)]) (σ2 := σ) ok_X8_year 64 1 124 126 [] rfl rfl rfl rfl trivial ?_
      exact ds_iret (show decode mt_X8_year.2.1 126 = .ok (.ireturn, 1) from ds_dec (i := (126, .ireturn, 1, 0, 0, 0, .int 0)) ok_X8_year 65 rfl) rfl h
    · replace h := h.2 hc
      refine ds_blk (ls2 := [some (.ref 0), g1, some (.int v2), some (.int v3)]) (st2 := [.ref 60, .ref 6, .ref 1, .ref 8]) (σ2 := σ) ok_X8_year 34 8 60 76 [ds_k Yc 0 8, ds_k Yc 0 8, ds_k Yc 0 8, ds_k Yc 0 8] rfl rfl rfl rfl ⟨⟨by decide, rfl⟩, ⟨by decide, rfl⟩, ⟨by decide, rfl⟩, ⟨by decide, rfl⟩, trivial⟩ ?_
      refine ds_callV (z := mt_X0_sendTable) (b := 8) (as := [.ref 1, .ref 6, .ref 60]) (rest := []) (show decode mt_X8_year.2.1 76 = .ok (.invokevirtual 183, 3) from ds_dec (i := (76, .invokevirtual 183, 3, 0, 0, 501, .int 0)) ok_X8_year 42 rfl) (ds_E.mono h (fun r σ1 hr => ?_)) ⟨zw_X0_sendTable.1, zw_X0_sendTable.2.1, zw_X0_sendTable.2.2, by decide, by decide⟩ (ds_wb_T (p := 501) (by decide +kernel)) zi_X0_sendTable zs_X0_sendTable (by decide) rfl ⟨_, rfl, rfl⟩ (Nat.le_of_ble_eq_true rfl)
      obtain ⟨rfl, h⟩ := hr
      show ds_X mt_X8_year Yc 79 [some (.ref 0), g1, some (.int v2), some (.int v3)] [] σ1 Q
      refine ds_blk (ls2 := [some (.ref 0), g1, some (.int v2), some (.int v3)]) (st2 := [.ref 11]) (σ2 := σ1) ok_X8_year 43 2 79 83 [ds_k Yc 0 8] rfl rfl rfl rfl ⟨⟨by decide, rfl⟩, trivial⟩ ?_
      refine ds_callV (z := mt_X3_clear) (b := 11) (as := []) (rest := []) (show decode mt_X8_year.2.1 83 = .ok (.invokevirtual 260, 3) from ds_dec (i := (83, .invokevirtual 260, 3, 0, 0, 518, .int 0)) ok_X8_year 45 rfl) (ds_E.mono h (fun r σ2 hr => ?_)) ⟨zw_X3_clear.1, zw_X3_clear.2.1, zw_X3_clear.2.2, by decide, by decide⟩ (ds_wb_T (p := 518) (by decide +kernel)) zi_X3_clear zs_X3_clear (by decide) rfl ⟨_, rfl, rfl⟩ (Nat.le_of_ble_eq_true rfl)
      obtain ⟨rfl, h⟩ := hr
      show ds_X mt_X8_year Yc 86 [some (.ref 0), g1, some (.int v2), some (.int v3)] [] σ2 Q
      refine ds_blk (ls2 := [some (.ref 0), g1, some (.int v2), some (.int v3)]) (st2 := [.ref 8, .ref 1, .ref 11]) (σ2 := σ2) ok_X8_year 46 6 86 98 [ds_k Yc 0 8, ds_k Yc 0 8, ds_k Yc 0 8] rfl rfl rfl rfl ⟨⟨by decide, rfl⟩, ⟨by decide, rfl⟩, ⟨by decide, rfl⟩, trivial⟩ ?_
      refine ds_callV (z := mt_X3_climb) (b := 11) (as := [.ref 1, .ref 8]) (rest := []) (show decode mt_X8_year.2.1 98 = .ok (.invokevirtual 263, 3) from ds_dec (i := (98, .invokevirtual 263, 3, 0, 0, 522, .int 0)) ok_X8_year 52 rfl) (ds_E.mono h (fun r σ3 hr => ?_)) ⟨zw_X3_climb.1, zw_X3_climb.2.1, zw_X3_climb.2.2, by decide, by decide⟩ (ds_wb_T (p := 522) (by decide +kernel)) zi_X3_climb zs_X3_climb (by decide) rfl ⟨_, rfl, rfl⟩ (Nat.le_of_ble_eq_true rfl)
      obtain ⟨rfl, h⟩ := hr
      show ds_X mt_X8_year Yc 101 [some (.ref 0), g1, some (.int v2), some (.int v3)] [] σ3 Q
      refine ds_blk (ls2 := [some (.ref 0), g1, some (.int v2), some (.int v3)]) (st2 := [.ref 11]) (σ2 := σ3) ok_X8_year 53 2 101 105 [ds_k Yc 0 8] rfl rfl rfl rfl ⟨⟨by decide, rfl⟩, trivial⟩ ?_
      refine ds_callV (z := mt_X3_isAboveOne) (b := 11) (as := []) (rest := []) (show decode mt_X8_year.2.1 105 = .ok (.invokevirtual 267, 3) from ds_dec (i := (105, .invokevirtual 267, 3, 0, 0, 700, .int 0)) ok_X8_year 55 rfl) (ds_E.mono (sp_X3_isAboveOne 11 σ3 ⟨by decide, rfl⟩) (fun r σ4 hr => ?_)) ⟨zw_X3_isAboveOne.1, zw_X3_isAboveOne.2.1, zw_X3_isAboveOne.2.2, by decide, by decide⟩ (ds_wb_T (p := 700) (by decide +kernel)) zi_X3_isAboveOne zs_X3_isAboveOne (by decide) rfl ⟨_, rfl, rfl⟩ (Nat.le_of_ble_eq_true rfl)
      obtain ⟨x9, rfl, e8, e9⟩ := hr
      rw [e8, e9]
      show ds_X mt_X8_year Yc 108 [some (.ref 0), g1, some (.int v2), some (.int v3)] [.int (q_ab (σ3.2 11 0) (σ3.1 11 1))] σ3 Q
      refine ds_if_eq (show decode mt_X8_year.2.1 108 = .ok (.ifCond .eq 5, 3) from ds_dec (i := (108, .ifCond .eq 5, 3, 0, 0, 0, .int 0)) ok_X8_year 56 rfl) (t := 113) (by decide) (fun hc => ?_) (fun hc => ?_)
      · replace h := h.1 hc
        refine ds_blk (ls2 := [some (.ref 0), g1, some (.int v2), some (.int v3)]) (st2 := [.int v2, .ref 0]) (σ2 := σ3) ok_X8_year 59 2 113 115 [] rfl rfl rfl rfl trivial ?_
        refine ds_callV (z := mt_X8_growByHundredths) (b := 0) (as := [.int v2]) (rest := []) (show decode mt_X8_year.2.1 115 = .ok (.invokevirtual 271, 3) from ds_dec (i := (115, .invokevirtual 271, 3, 0, 0, 705, .int 0)) ok_X8_year 61 rfl) (ds_E.mono h (fun r σ5 hr => ?_)) ⟨zw_X8_growByHundredths.1, zw_X8_growByHundredths.2.1, zw_X8_growByHundredths.2.2, by decide, by decide⟩ (ds_wb_T (p := 705) (by decide +kernel)) zi_X8_growByHundredths zs_X8_growByHundredths (by decide) rfl ⟨_, rfl, rfl⟩ (Nat.le_of_ble_eq_true rfl)
        obtain ⟨rfl, h⟩ := hr
        show ds_X mt_X8_year Yc 118 [some (.ref 0), g1, some (.int v2), some (.int v3)] [] σ5 Q
        refine ds_blk (ls2 := [some (.ref 0), g1, some (.int v2), some (.int (v3 + (1 : Int32)))]) (st2 := []) (σ2 := σ5) ok_X8_year 62 1 118 121 [] rfl rfl rfl rfl trivial ?_
        refine ds_goto (show decode mt_X8_year.2.1 121 = .ok (.goto (-67), 3) from ds_dec (i := (121, .goto (-67), 3, 0, 0, 0, .int 0)) ok_X8_year 63 rfl) (t := 54) (by decide) ?_
        exact ih v2 (v3 + (1 : Int32)) _ σ5 Q h
      · replace h := h.2 hc
        refine ds_blk (ls2 := [some (.ref 0), g1, some (.int v2), some (.int v3)]) (st2 := [.int v3]) (σ2 := σ3) ok_X8_year 57 1 111 112 [] rfl rfl rfl rfl trivial ?_
        exact ds_iret (show decode mt_X8_year.2.1 112 = .ok (.ireturn, 1) from ds_dec (i := (112, .ireturn, 1, 0, 0, 0, .int 0)) ok_X8_year 58 rfl) rfl h
def w_X8_year (a1 : Int32) (a2 : Int32) (σ : ds_S) (Q : Option Value → ds_S → Prop) : Prop := ((¬ (q_rng a1 0 3) = 0 → ((a2 < (1 : Int32) → Q (some (.int (-2 : Int32))) σ) ∧ (¬ a2 < (1 : Int32) → ((a2 ≤ (100 : Int32) → ds_EV mt_X4_findAll Yc [.ref 6, .ref 1, .int (-1 : Int32)] σ (fun σ2 => vp_in a1 3 ∧ ds_k Yc (Yc.2.2.2 2 a1.toNatClampNeg) 10 ∧ 36 ≤ Yc.2.2.1 (Yc.2.2.2 2 a1.toNatClampNeg) ∧ ∃ n, w_X8_year_54 n a2 (0 : Int32) (ds_cp σ2 (Yc.2.2.2 2 a1.toNatClampNeg) 60 36) Q)) ∧ (¬ a2 ≤ (100 : Int32) → Q (some (.int (-2 : Int32))) σ))))) ∧ ((q_rng a1 0 3) = 0 → Q (some (.int (-1 : Int32))) σ))
theorem e_X8_year (a1 : Int32) (a2 : Int32) (σ : ds_S) (Q : Option Value → ds_S → Prop) (h : w_X8_year a1 a2 σ Q) : ds_E mt_X8_year Yc [.ref 0, .int a1, .int a2] σ Q := by
  refine ds_enter (by decide) (Nat.le_of_ble_eq_true rfl) ?_
  show ds_X mt_X8_year Yc 0 [some (.ref 0), some (.int a1), some (.int a2), none] [] σ Q
  unfold w_X8_year at h
  refine ds_blk (ls2 := [some (.ref 0), some (.int a1), some (.int a2), none]) (st2 := [.int a1]) (σ2 := σ) ok_X8_year 0 1 0 1 [] rfl rfl rfl rfl trivial ?_
  refine ds_callS (z := mt_X8_isTable) (as := [.int a1]) (rest := []) (show decode mt_X8_year.2.1 1 = .ok (.invokestatic 137, 3) from ds_dec (i := (1, .invokestatic 137, 3, 0, 0, 416, .int 0)) ok_X8_year 1 rfl) (ds_E.mono (sp_X8_isTable a1 σ ) (fun r σ1 hr => ?_)) ⟨zw_X8_isTable.1, zw_X8_isTable.2.1, zw_X8_isTable.2.2, by decide, by decide⟩ (ds_wb_T (p := 416) (by decide +kernel)) zt_X8_isTable (Nat.le_of_ble_eq_true rfl)
  obtain ⟨x9, rfl, e8, e9⟩ := hr
  rw [e8, e9]
  show ds_X mt_X8_year Yc 4 [some (.ref 0), some (.int a1), some (.int a2), none] [.int (q_rng a1 0 3)] σ Q
  refine ds_if_ne (show decode mt_X8_year.2.1 4 = .ok (.ifCond .ne 5, 3) from ds_dec (i := (4, .ifCond .ne 5, 3, 0, 0, 0, .int 0)) ok_X8_year 2 rfl) (t := 9) (by decide) (fun hc => ?_) (fun hc => ?_)
  · replace h := h.1 hc
    refine ds_blk (ls2 := [some (.ref 0), some (.int a1), some (.int a2), none]) (st2 := [.int (1 : Int32), .int a2]) (σ2 := σ) ok_X8_year 5 2 9 11 [] rfl rfl rfl rfl trivial ?_
    refine ds_ic_lt (show decode mt_X8_year.2.1 11 = .ok (.if_icmp .lt 9, 3) from ds_dec (i := (11, .if_icmp .lt 9, 3, 0, 0, 0, .int 0)) ok_X8_year 7 rfl) (t := 20) (by decide) (fun hc => ?_) (fun hc => ?_)
    · replace h := h.1 hc
      refine ds_blk (ls2 := [some (.ref 0), some (.int a1), some (.int a2), none]) (st2 := [.int (-2 : Int32)]) (σ2 := σ) ok_X8_year 11 1 20 22 [] rfl rfl rfl rfl trivial ?_
      exact ds_iret (show decode mt_X8_year.2.1 22 = .ok (.ireturn, 1) from ds_dec (i := (22, .ireturn, 1, 0, 0, 0, .int 0)) ok_X8_year 12 rfl) rfl h
    · replace h := h.2 hc
      refine ds_blk (ls2 := [some (.ref 0), some (.int a1), some (.int a2), none]) (st2 := [.int (100 : Int32), .int a2]) (σ2 := σ) ok_X8_year 8 2 14 17 [] rfl rfl rfl rfl trivial ?_
      refine ds_ic_le (show decode mt_X8_year.2.1 17 = .ok (.if_icmp .le 6, 3) from ds_dec (i := (17, .if_icmp .le 6, 3, 0, 0, 0, .int 0)) ok_X8_year 10 rfl) (t := 23) (by decide) (fun hc => ?_) (fun hc => ?_)
      · replace h := h.1 hc
        refine ds_blk (ls2 := [some (.ref 0), some (.int a1), some (.int a2), none]) (st2 := [.int (-1 : Int32), .ref 1, .ref 6]) (σ2 := σ) ok_X8_year 13 5 23 32 [ds_k Yc 0 8, ds_k Yc 0 8] rfl rfl rfl rfl ⟨⟨by decide, rfl⟩, ⟨by decide, rfl⟩, trivial⟩ ?_
        refine ds_callV (z := mt_X4_findAll) (b := 6) (as := [.ref 1, .int (-1 : Int32)]) (rest := []) (show decode mt_X8_year.2.1 32 = .ok (.invokevirtual 179, 3) from ds_dec (i := (32, .invokevirtual 179, 3, 0, 0, 492, .int 0)) ok_X8_year 18 rfl) (ds_E.mono h (fun r σ2 hr => ?_)) ⟨zw_X4_findAll.1, zw_X4_findAll.2.1, zw_X4_findAll.2.2, by decide, by decide⟩ (ds_wb_T (p := 492) (by decide +kernel)) zi_X4_findAll zs_X4_findAll (by decide) rfl ⟨_, rfl, rfl⟩ (Nat.le_of_ble_eq_true rfl)
        obtain ⟨rfl, h⟩ := hr
        show ds_X mt_X8_year Yc 35 [some (.ref 0), some (.int a1), some (.int a2), none] [] σ2 Q
        obtain ⟨o1, h⟩ := h
        refine ds_blk (ls2 := [some (.ref 0), some (.int a1), some (.int a2), none]) (st2 := [.int (36 : Int32), .int (0 : Int32), .ref 60, .int (0 : Int32), .ref (Yc.2.2.2 2 a1.toNatClampNeg)]) (σ2 := σ2) ok_X8_year 19 9 35 49 [ds_k Yc 0 8, ds_k Yc 2 14, vp_in a1 3, ds_k Yc 0 8] rfl rfl rfl rfl ⟨⟨by decide, rfl⟩, ⟨by decide, rfl⟩, o1, ⟨by decide, rfl⟩, trivial⟩ ?_
        obtain ⟨o2, o3, h⟩ := h
        refine ds_copy (a := (Yc.2.2.2 2 a1.toNatClampNeg)) (b := 60) (st := []) (show decode mt_X8_year.2.1 49 = .ok (.invokestatic 239, 3) from ds_dec (i := (49, .invokestatic 239, 3, 0, 0, 628, .int 0)) ok_X8_year 28 rfl) (ds_wb_T (p := 628) (by decide +kernel)) ds_ac1 ds_ac2 ds_ac3 o2.1 o2.2 (by decide) rfl (by decide) (by decide) (by decide) (by show 0 + 36 ≤ _; rw [Nat.zero_add]; exact o3) (by decide) (by decide) (by decide) ?_
        show ds_X mt_X8_year Yc 52 [some (.ref 0), some (.int a1), some (.int a2), none] [] (ds_cp σ2 (Yc.2.2.2 2 a1.toNatClampNeg) 60 36) Q
        refine ds_blk (ls2 := [some (.ref 0), some (.int a1), some (.int a2), some (.int (0 : Int32))]) (st2 := []) (σ2 := (ds_cp σ2 (Yc.2.2.2 2 a1.toNatClampNeg) 60 36)) ok_X8_year 29 2 52 54 [] rfl rfl rfl rfl trivial ?_
        obtain ⟨n, h⟩ := h
        refine x_X8_year_54 n a2 (0 : Int32) _ (ds_cp σ2 (Yc.2.2.2 2 a1.toNatClampNeg) 60 36) Q h
      · replace h := h.2 hc
        refine ds_blk (ls2 := [some (.ref 0), some (.int a1), some (.int a2), none]) (st2 := [.int (-2 : Int32)]) (σ2 := σ) ok_X8_year 11 1 20 22 [] rfl rfl rfl rfl trivial ?_
        exact ds_iret (show decode mt_X8_year.2.1 22 = .ok (.ireturn, 1) from ds_dec (i := (22, .ireturn, 1, 0, 0, 0, .int 0)) ok_X8_year 12 rfl) rfl h
  · replace h := h.2 hc
    refine ds_blk (ls2 := [some (.ref 0), some (.int a1), some (.int a2), none]) (st2 := [.int (-1 : Int32)]) (σ2 := σ) ok_X8_year 3 1 7 8 [] rfl rfl rfl rfl trivial ?_
    exact ds_iret (show decode mt_X8_year.2.1 8 = .ok (.ireturn, 1) from ds_dec (i := (8, .ireturn, 1, 0, 0, 0, .int 0)) ok_X8_year 4 rfl) rfl h
def w_X8_told (a1 : Int32) (σ : ds_S) (Q : Option Value → ds_S → Prop) : Prop := ((a1.toInt < 0 ∨ 7 < a1.toInt → Q (some (.int (-2 : Int32))) σ) ∧ (a1 = (0 : Int32) → Q (some (.int (σ.1 1 0))) σ) ∧ (a1 = (1 : Int32) → Q (some (.int (σ.1 1 1))) σ) ∧ (a1 = (2 : Int32) → Q (some (.int (σ.1 1 6))) σ) ∧ (a1 = (3 : Int32) → Q (some (.int (σ.1 1 7))) σ) ∧ (a1 = (4 : Int32) → (((σ.1 12 2) = 0 → Q (some (.int (0 : Int32))) σ) ∧ (¬ (σ.1 12 2) = 0 → Q (some (.int (1 : Int32))) σ))) ∧ (a1 = (5 : Int32) → ds_EI mt_X8_sumOfLoads Yc [.ref 0, .int (a1 - (5 : Int32))] σ (fun r1 σ1 => Q (some (.int r1)) σ1)) ∧ (a1 = (6 : Int32) → ds_EI mt_X8_sumOfLoads Yc [.ref 0, .int (a1 - (5 : Int32))] σ (fun r2 σ2 => Q (some (.int r2)) σ2)) ∧ (a1 = (7 : Int32) → ds_EI mt_X8_sumOfLoads Yc [.ref 0, .int (a1 - (5 : Int32))] σ (fun r3 σ3 => Q (some (.int r3)) σ3)))
theorem e_X8_told (a1 : Int32) (σ : ds_S) (Q : Option Value → ds_S → Prop) (h : w_X8_told a1 σ Q) : ds_E mt_X8_told Yc [.ref 0, .int a1] σ Q := by
  refine ds_enter (by decide) (Nat.le_of_ble_eq_true rfl) ?_
  show ds_X mt_X8_told Yc 0 [some (.ref 0), some (.int a1)] [] σ Q
  unfold w_X8_told at h
  refine ds_blk (ls2 := [some (.ref 0), some (.int a1)]) (st2 := [.int a1]) (σ2 := σ) ok_X8_told 0 1 0 1 [] rfl rfl rfl rfl trivial ?_
  refine ds_table (show decode mt_X8_told.2.1 1 = .ok (.tableswitch 103 0 7 #[47, 55, 63, 71, 79, 95, 95, 95], 47) from ds_dec (i := (1, .tableswitch 103 0 7 #[47, 55, 63, 71, 79, 95, 95, 95], 47, 0, 0, 0, .int 0)) ok_X8_told 1 rfl) 104 (by decide) (fun hc => ?_) (fun hc1 hc2 => ?_)
  · replace h := h.1 hc
    refine ds_blk (ls2 := [some (.ref 0), some (.int a1)]) (st2 := [.int (-2 : Int32)]) (σ2 := σ) ok_X8_told 32 1 104 106 [] rfl rfl rfl rfl trivial ?_
    exact ds_iret (show decode mt_X8_told.2.1 106 = .ok (.ireturn, 1) from ds_dec (i := (106, .ireturn, 1, 0, 0, 0, .int 0)) ok_X8_told 33 rfl) rfl h
  · have hcs : a1.toInt = 0 ∨ a1.toInt = 1 ∨ a1.toInt = 2 ∨ a1.toInt = 3 ∨ a1.toInt = 4 ∨ a1.toInt = 5 ∨ a1.toInt = 6 ∨ a1.toInt = 7 := by omega
    rcases hcs with e | e | e | e | e | e | e | e
    · refine ⟨47, 48, by rw [e]; rfl, by decide, ?_⟩
      replace h := h.2.1 (Int32.toInt_inj.mp (by rw [e]; rfl))
      refine ds_blk (ls2 := [some (.ref 0), some (.int a1)]) (st2 := [.int (σ.1 1 0)]) (σ2 := σ) ok_X8_told 2 3 48 55 [ds_k Yc 0 8, ds_k Yc 1 1] rfl rfl rfl rfl ⟨⟨by decide, rfl⟩, ⟨by decide, rfl⟩, trivial⟩ ?_
      exact ds_iret (show decode mt_X8_told.2.1 55 = .ok (.ireturn, 1) from ds_dec (i := (55, .ireturn, 1, 0, 0, 0, .int 0)) ok_X8_told 5 rfl) rfl h
    · refine ⟨55, 56, by rw [e]; rfl, by decide, ?_⟩
      replace h := h.2.2.1 (Int32.toInt_inj.mp (by rw [e]; rfl))
      refine ds_blk (ls2 := [some (.ref 0), some (.int a1)]) (st2 := [.int (σ.1 1 1)]) (σ2 := σ) ok_X8_told 6 3 56 63 [ds_k Yc 0 8, ds_k Yc 1 1] rfl rfl rfl rfl ⟨⟨by decide, rfl⟩, ⟨by decide, rfl⟩, trivial⟩ ?_
      exact ds_iret (show decode mt_X8_told.2.1 63 = .ok (.ireturn, 1) from ds_dec (i := (63, .ireturn, 1, 0, 0, 0, .int 0)) ok_X8_told 9 rfl) rfl h
    · refine ⟨63, 64, by rw [e]; rfl, by decide, ?_⟩
      replace h := h.2.2.2.1 (Int32.toInt_inj.mp (by rw [e]; rfl))
      refine ds_blk (ls2 := [some (.ref 0), some (.int a1)]) (st2 := [.int (σ.1 1 6)]) (σ2 := σ) ok_X8_told 10 3 64 71 [ds_k Yc 0 8, ds_k Yc 1 1] rfl rfl rfl rfl ⟨⟨by decide, rfl⟩, ⟨by decide, rfl⟩, trivial⟩ ?_
      exact ds_iret (show decode mt_X8_told.2.1 71 = .ok (.ireturn, 1) from ds_dec (i := (71, .ireturn, 1, 0, 0, 0, .int 0)) ok_X8_told 13 rfl) rfl h
    · refine ⟨71, 72, by rw [e]; rfl, by decide, ?_⟩
      replace h := h.2.2.2.2.1 (Int32.toInt_inj.mp (by rw [e]; rfl))
      refine ds_blk (ls2 := [some (.ref 0), some (.int a1)]) (st2 := [.int (σ.1 1 7)]) (σ2 := σ) ok_X8_told 14 3 72 79 [ds_k Yc 0 8, ds_k Yc 1 1] rfl rfl rfl rfl ⟨⟨by decide, rfl⟩, ⟨by decide, rfl⟩, trivial⟩ ?_
      exact ds_iret (show decode mt_X8_told.2.1 79 = .ok (.ireturn, 1) from ds_dec (i := (79, .ireturn, 1, 0, 0, 0, .int 0)) ok_X8_told 17 rfl) rfl h
    · refine ⟨79, 80, by rw [e]; rfl, by decide, ?_⟩
      replace h := h.2.2.2.2.2.1 (Int32.toInt_inj.mp (by rw [e]; rfl))
      refine ds_blk (ls2 := [some (.ref 0), some (.int a1)]) (st2 := [.int (σ.1 12 2)]) (σ2 := σ) ok_X8_told 18 3 80 87 [ds_k Yc 0 8, ds_k Yc 12 6] rfl rfl rfl rfl ⟨⟨by decide, rfl⟩, ⟨by decide, rfl⟩, trivial⟩ ?_
      refine ds_if_eq (show decode mt_X8_told.2.1 87 = .ok (.ifCond .eq 7, 3) from ds_dec (i := (87, .ifCond .eq 7, 3, 0, 0, 0, .int 0)) ok_X8_told 21 rfl) (t := 94) (by decide) (fun hc => ?_) (fun hc => ?_)
      · replace h := h.1 hc
        refine ds_blk (ls2 := [some (.ref 0), some (.int a1)]) (st2 := [.int (0 : Int32)]) (σ2 := σ) ok_X8_told 24 1 94 95 [] rfl rfl rfl rfl trivial ?_
        exact ds_iret (show decode mt_X8_told.2.1 95 = .ok (.ireturn, 1) from ds_dec (i := (95, .ireturn, 1, 0, 0, 0, .int 0)) ok_X8_told 25 rfl) rfl h
      · replace h := h.2 hc
        refine ds_blk (ls2 := [some (.ref 0), some (.int a1)]) (st2 := [.int (1 : Int32)]) (σ2 := σ) ok_X8_told 22 1 90 91 [] rfl rfl rfl rfl trivial ?_
        refine ds_goto (show decode mt_X8_told.2.1 91 = .ok (.goto 4, 3) from ds_dec (i := (91, .goto 4, 3, 0, 0, 0, .int 0)) ok_X8_told 23 rfl) (t := 95) (by decide) ?_
        exact ds_iret (show decode mt_X8_told.2.1 95 = .ok (.ireturn, 1) from ds_dec (i := (95, .ireturn, 1, 0, 0, 0, .int 0)) ok_X8_told 25 rfl) rfl h
    · refine ⟨95, 96, by rw [e]; rfl, by decide, ?_⟩
      replace h := h.2.2.2.2.2.2.1 (Int32.toInt_inj.mp (by rw [e]; rfl))
      refine ds_blk (ls2 := [some (.ref 0), some (.int a1)]) (st2 := [.int (a1 - (5 : Int32)), .ref 0]) (σ2 := σ) ok_X8_told 26 4 96 100 [] rfl rfl rfl rfl trivial ?_
      refine ds_callV (z := mt_X8_sumOfLoads) (b := 0) (as := [.int (a1 - (5 : Int32))]) (rest := []) (show decode mt_X8_told.2.1 100 = .ok (.invokevirtual 274, 3) from ds_dec (i := (100, .invokevirtual 274, 3, 0, 0, 719, .int 0)) ok_X8_told 30 rfl) (ds_E.mono h (fun r σ1 hr => ?_)) ⟨zw_X8_sumOfLoads.1, zw_X8_sumOfLoads.2.1, zw_X8_sumOfLoads.2.2, by decide, by decide⟩ (ds_wb_T (p := 719) (by decide +kernel)) zi_X8_sumOfLoads zs_X8_sumOfLoads (by decide) rfl ⟨_, rfl, rfl⟩ (Nat.le_of_ble_eq_true rfl)
      obtain ⟨r1, rfl, h⟩ := hr
      show ds_X mt_X8_told Yc 103 [some (.ref 0), some (.int a1)] [.int r1] σ1 Q
      exact ds_iret (show decode mt_X8_told.2.1 103 = .ok (.ireturn, 1) from ds_dec (i := (103, .ireturn, 1, 0, 0, 0, .int 0)) ok_X8_told 31 rfl) rfl h
    · refine ⟨95, 96, by rw [e]; rfl, by decide, ?_⟩
      replace h := h.2.2.2.2.2.2.2.1 (Int32.toInt_inj.mp (by rw [e]; rfl))
      refine ds_blk (ls2 := [some (.ref 0), some (.int a1)]) (st2 := [.int (a1 - (5 : Int32)), .ref 0]) (σ2 := σ) ok_X8_told 26 4 96 100 [] rfl rfl rfl rfl trivial ?_
      refine ds_callV (z := mt_X8_sumOfLoads) (b := 0) (as := [.int (a1 - (5 : Int32))]) (rest := []) (show decode mt_X8_told.2.1 100 = .ok (.invokevirtual 274, 3) from ds_dec (i := (100, .invokevirtual 274, 3, 0, 0, 719, .int 0)) ok_X8_told 30 rfl) (ds_E.mono h (fun r σ2 hr => ?_)) ⟨zw_X8_sumOfLoads.1, zw_X8_sumOfLoads.2.1, zw_X8_sumOfLoads.2.2, by decide, by decide⟩ (ds_wb_T (p := 719) (by decide +kernel)) zi_X8_sumOfLoads zs_X8_sumOfLoads (by decide) rfl ⟨_, rfl, rfl⟩ (Nat.le_of_ble_eq_true rfl)
      obtain ⟨r2, rfl, h⟩ := hr
      show ds_X mt_X8_told Yc 103 [some (.ref 0), some (.int a1)] [.int r2] σ2 Q
      exact ds_iret (show decode mt_X8_told.2.1 103 = .ok (.ireturn, 1) from ds_dec (i := (103, .ireturn, 1, 0, 0, 0, .int 0)) ok_X8_told 31 rfl) rfl h
    · refine ⟨95, 96, by rw [e]; rfl, by decide, ?_⟩
      replace h := h.2.2.2.2.2.2.2.2 (Int32.toInt_inj.mp (by rw [e]; rfl))
      refine ds_blk (ls2 := [some (.ref 0), some (.int a1)]) (st2 := [.int (a1 - (5 : Int32)), .ref 0]) (σ2 := σ) ok_X8_told 26 4 96 100 [] rfl rfl rfl rfl trivial ?_
      refine ds_callV (z := mt_X8_sumOfLoads) (b := 0) (as := [.int (a1 - (5 : Int32))]) (rest := []) (show decode mt_X8_told.2.1 100 = .ok (.invokevirtual 274, 3) from ds_dec (i := (100, .invokevirtual 274, 3, 0, 0, 719, .int 0)) ok_X8_told 30 rfl) (ds_E.mono h (fun r σ3 hr => ?_)) ⟨zw_X8_sumOfLoads.1, zw_X8_sumOfLoads.2.1, zw_X8_sumOfLoads.2.2, by decide, by decide⟩ (ds_wb_T (p := 719) (by decide +kernel)) zi_X8_sumOfLoads zs_X8_sumOfLoads (by decide) rfl ⟨_, rfl, rfl⟩ (Nat.le_of_ble_eq_true rfl)
      obtain ⟨r3, rfl, h⟩ := hr
      show ds_X mt_X8_told Yc 103 [some (.ref 0), some (.int a1)] [.int r3] σ3 Q
      exact ds_iret (show decode mt_X8_told.2.1 103 = .ok (.ireturn, 1) from ds_dec (i := (103, .ireturn, 1, 0, 0, 0, .int 0)) ok_X8_told 31 rfl) rfl h
def w_X8_refusalOfNews (a1 : Int32) (a2 : Int32) (σ : ds_S) (Q : Option Value → ds_S → Prop) : Prop := ((¬ (q_rng a1 0 (σ.1 1 1)) = 0 → ((¬ (q_rng a2 1 21) = 0 → ((¬ (q_bit (σ.1 1 7) a1) = (1 : Int32) → Q (some (.int (0 : Int32))) σ) ∧ ((q_bit (σ.1 1 7) a1) = (1 : Int32) → Q (some (.int (-3 : Int32))) σ))) ∧ ((q_rng a2 1 21) = 0 → Q (some (.int (-2 : Int32))) σ))) ∧ ((q_rng a1 0 (σ.1 1 1)) = 0 → Q (some (.int (-1 : Int32))) σ))
theorem e_X8_refusalOfNews (a1 : Int32) (a2 : Int32) (σ : ds_S) (Q : Option Value → ds_S → Prop) (h : w_X8_refusalOfNews a1 a2 σ Q) : ds_E mt_X8_refusalOfNews Yc [.ref 0, .int a1, .int a2] σ Q := by
  refine ds_enter (by decide) (Nat.le_of_ble_eq_true rfl) ?_
  show ds_X mt_X8_refusalOfNews Yc 0 [some (.ref 0), some (.int a1), some (.int a2)] [] σ Q
  unfold w_X8_refusalOfNews at h
  refine ds_blk (ls2 := [some (.ref 0), some (.int a1), some (.int a2)]) (st2 := [.int a1, .ref 1]) (σ2 := σ) ok_X8_refusalOfNews 0 3 0 5 [ds_k Yc 0 8] rfl rfl rfl rfl ⟨⟨by decide, rfl⟩, trivial⟩ ?_
  refine ds_callV (z := mt_X1_hasLine) (b := 1) (as := [.int a1]) (rest := []) (show decode mt_X8_refusalOfNews.2.1 5 = .ok (.invokevirtual 105, 3) from ds_dec (i := (5, .invokevirtual 105, 3, 0, 0, 391, .int 0)) ok_X8_refusalOfNews 3 rfl) (ds_E.mono (sp_X1_hasLine a1 σ ) (fun r σ1 hr => ?_)) ⟨zw_X1_hasLine.1, zw_X1_hasLine.2.1, zw_X1_hasLine.2.2, by decide, by decide⟩ (ds_wb_T (p := 391) (by decide +kernel)) zi_X1_hasLine zs_X1_hasLine (by decide) rfl ⟨_, rfl, rfl⟩ (Nat.le_of_ble_eq_true rfl)
  obtain ⟨x9, rfl, e8, e9⟩ := hr
  rw [e8, e9]
  show ds_X mt_X8_refusalOfNews Yc 8 [some (.ref 0), some (.int a1), some (.int a2)] [.int (q_rng a1 0 (σ.1 1 1))] σ Q
  refine ds_if_ne (show decode mt_X8_refusalOfNews.2.1 8 = .ok (.ifCond .ne 5, 3) from ds_dec (i := (8, .ifCond .ne 5, 3, 0, 0, 0, .int 0)) ok_X8_refusalOfNews 4 rfl) (t := 13) (by decide) (fun hc => ?_) (fun hc => ?_)
  · replace h := h.1 hc
    refine ds_blk (ls2 := [some (.ref 0), some (.int a1), some (.int a2)]) (st2 := [.int a2]) (σ2 := σ) ok_X8_refusalOfNews 7 1 13 14 [] rfl rfl rfl rfl trivial ?_
    refine ds_callS (z := mt_X8_isWeight) (as := [.int a2]) (rest := []) (show decode mt_X8_refusalOfNews.2.1 14 = .ok (.invokestatic 94, 3) from ds_dec (i := (14, .invokestatic 94, 3, 0, 0, 380, .int 0)) ok_X8_refusalOfNews 8 rfl) (ds_E.mono (sp_X8_isWeight a2 σ ) (fun r σ2 hr => ?_)) ⟨zw_X8_isWeight.1, zw_X8_isWeight.2.1, zw_X8_isWeight.2.2, by decide, by decide⟩ (ds_wb_T (p := 380) (by decide +kernel)) zt_X8_isWeight (Nat.le_of_ble_eq_true rfl)
    obtain ⟨x9, rfl, e8, e9⟩ := hr
    rw [e8, e9]
    show ds_X mt_X8_refusalOfNews Yc 17 [some (.ref 0), some (.int a1), some (.int a2)] [.int (q_rng a2 1 21)] σ Q
    refine ds_if_ne (show decode mt_X8_refusalOfNews.2.1 17 = .ok (.ifCond .ne 6, 3) from ds_dec (i := (17, .ifCond .ne 6, 3, 0, 0, 0, .int 0)) ok_X8_refusalOfNews 9 rfl) (t := 23) (by decide) (fun hc => ?_) (fun hc => ?_)
    · replace h := h.1 hc
      refine ds_blk (ls2 := [some (.ref 0), some (.int a1), some (.int a2)]) (st2 := [.int a1, .int (σ.1 1 7)]) (σ2 := σ) ok_X8_refusalOfNews 12 4 23 31 [ds_k Yc 0 8, ds_k Yc 1 1] rfl rfl rfl rfl ⟨⟨by decide, rfl⟩, ⟨by decide, rfl⟩, trivial⟩ ?_
      refine ds_callS (z := mt_X8_bit) (as := [.int (σ.1 1 7), .int a1]) (rest := []) (show decode mt_X8_refusalOfNews.2.1 31 = .ok (.invokestatic 123, 3) from ds_dec (i := (31, .invokestatic 123, 3, 0, 0, 395, .int 0)) ok_X8_refusalOfNews 16 rfl) (ds_E.mono (sp_X8_bit (σ.1 1 7) a1 σ ) (fun r σ3 hr => ?_)) ⟨zw_X8_bit.1, zw_X8_bit.2.1, zw_X8_bit.2.2, by decide, by decide⟩ (ds_wb_T (p := 395) (by decide +kernel)) zt_X8_bit (Nat.le_of_ble_eq_true rfl)
      obtain ⟨x9, rfl, e8, e9⟩ := hr
      rw [e8, e9]
      show ds_X mt_X8_refusalOfNews Yc 34 [some (.ref 0), some (.int a1), some (.int a2)] [.int (q_bit (σ.1 1 7) a1)] σ Q
      refine ds_blk (ls2 := [some (.ref 0), some (.int a1), some (.int a2)]) (st2 := [.int (1 : Int32), .int (q_bit (σ.1 1 7) a1)]) (σ2 := σ) ok_X8_refusalOfNews 17 1 34 35 [] rfl rfl rfl rfl trivial ?_
      refine ds_ic_ne (show decode mt_X8_refusalOfNews.2.1 35 = .ok (.if_icmp .ne 8, 3) from ds_dec (i := (35, .if_icmp .ne 8, 3, 0, 0, 0, .int 0)) ok_X8_refusalOfNews 18 rfl) (t := 43) (by decide) (fun hc => ?_) (fun hc => ?_)
      · replace h := h.1 hc
        refine ds_blk (ls2 := [some (.ref 0), some (.int a1), some (.int a2)]) (st2 := [.int (0 : Int32)]) (σ2 := σ) ok_X8_refusalOfNews 21 1 43 44 [] rfl rfl rfl rfl trivial ?_
        exact ds_iret (show decode mt_X8_refusalOfNews.2.1 44 = .ok (.ireturn, 1) from ds_dec (i := (44, .ireturn, 1, 0, 0, 0, .int 0)) ok_X8_refusalOfNews 22 rfl) rfl h
      · replace h := h.2 hc
        refine ds_blk (ls2 := [some (.ref 0), some (.int a1), some (.int a2)]) (st2 := [.int (-3 : Int32)]) (σ2 := σ) ok_X8_refusalOfNews 19 1 38 40 [] rfl rfl rfl rfl trivial ?_
        refine ds_goto (show decode mt_X8_refusalOfNews.2.1 40 = .ok (.goto 4, 3) from ds_dec (i := (40, .goto 4, 3, 0, 0, 0, .int 0)) ok_X8_refusalOfNews 20 rfl) (t := 44) (by decide) ?_
        exact ds_iret (show decode mt_X8_refusalOfNews.2.1 44 = .ok (.ireturn, 1) from ds_dec (i := (44, .ireturn, 1, 0, 0, 0, .int 0)) ok_X8_refusalOfNews 22 rfl) rfl h
    · replace h := h.2 hc
      refine ds_blk (ls2 := [some (.ref 0), some (.int a1), some (.int a2)]) (st2 := [.int (-2 : Int32)]) (σ2 := σ) ok_X8_refusalOfNews 10 1 20 22 [] rfl rfl rfl rfl trivial ?_
      exact ds_iret (show decode mt_X8_refusalOfNews.2.1 22 = .ok (.ireturn, 1) from ds_dec (i := (22, .ireturn, 1, 0, 0, 0, .int 0)) ok_X8_refusalOfNews 11 rfl) rfl h
  · replace h := h.2 hc
    refine ds_blk (ls2 := [some (.ref 0), some (.int a1), some (.int a2)]) (st2 := [.int (-1 : Int32)]) (σ2 := σ) ok_X8_refusalOfNews 5 1 11 12 [] rfl rfl rfl rfl trivial ?_
    exact ds_iret (show decode mt_X8_refusalOfNews.2.1 12 = .ok (.ireturn, 1) from ds_dec (i := (12, .ireturn, 1, 0, 0, 0, .int 0)) ok_X8_refusalOfNews 6 rfl) rfl h
def w_X8_findPeak (a1 : Int32) (σ : ds_S) (Q : Option Value → ds_S → Prop) : Prop := ds_EV mt_X4_findAll Yc [.ref 6, .ref 1, .int (-1 : Int32)] σ (fun σ1 => vp_in a1 3 ∧ ds_EV mt_X0_sendTable Yc [.ref 8, .ref 1, .ref 6, .ref (Yc.2.2.2 2 a1.toNatClampNeg)] σ1 (fun σ2 => ds_EV mt_X3_clear Yc [.ref 11] σ2 (fun σ3 => ds_EV mt_X3_climb Yc [.ref 11, .ref 1, .ref 8] σ3 (fun σ4 => Q none σ4))))
theorem e_X8_findPeak (a1 : Int32) (σ : ds_S) (Q : Option Value → ds_S → Prop) (h : w_X8_findPeak a1 σ Q) : ds_E mt_X8_findPeak Yc [.ref 0, .int a1] σ Q := by
  refine ds_enter (by decide) (Nat.le_of_ble_eq_true rfl) ?_
  show ds_X mt_X8_findPeak Yc 0 [some (.ref 0), some (.int a1)] [] σ Q
  unfold w_X8_findPeak at h
  refine ds_blk (ls2 := [some (.ref 0), some (.int a1)]) (st2 := [.int (-1 : Int32), .ref 1, .ref 6]) (σ2 := σ) ok_X8_findPeak 0 5 0 9 [ds_k Yc 0 8, ds_k Yc 0 8] rfl rfl rfl rfl ⟨⟨by decide, rfl⟩, ⟨by decide, rfl⟩, trivial⟩ ?_
  refine ds_callV (z := mt_X4_findAll) (b := 6) (as := [.ref 1, .int (-1 : Int32)]) (rest := []) (show decode mt_X8_findPeak.2.1 9 = .ok (.invokevirtual 179, 3) from ds_dec (i := (9, .invokevirtual 179, 3, 0, 0, 492, .int 0)) ok_X8_findPeak 5 rfl) (ds_E.mono h (fun r σ1 hr => ?_)) ⟨zw_X4_findAll.1, zw_X4_findAll.2.1, zw_X4_findAll.2.2, by decide, by decide⟩ (ds_wb_T (p := 492) (by decide +kernel)) zi_X4_findAll zs_X4_findAll (by decide) rfl ⟨_, rfl, rfl⟩ (Nat.le_of_ble_eq_true rfl)
  obtain ⟨rfl, h⟩ := hr
  show ds_X mt_X8_findPeak Yc 12 [some (.ref 0), some (.int a1)] [] σ1 Q
  obtain ⟨o1, h⟩ := h
  refine ds_blk (ls2 := [some (.ref 0), some (.int a1)]) (st2 := [.ref (Yc.2.2.2 2 a1.toNatClampNeg), .ref 6, .ref 1, .ref 8]) (σ2 := σ1) ok_X8_findPeak 6 10 12 30 [ds_k Yc 0 8, ds_k Yc 0 8, ds_k Yc 0 8, ds_k Yc 0 8, ds_k Yc 2 14, vp_in a1 3] rfl rfl rfl rfl ⟨⟨by decide, rfl⟩, ⟨by decide, rfl⟩, ⟨by decide, rfl⟩, ⟨by decide, rfl⟩, ⟨by decide, rfl⟩, o1, trivial⟩ ?_
  refine ds_callV (z := mt_X0_sendTable) (b := 8) (as := [.ref 1, .ref 6, .ref (Yc.2.2.2 2 a1.toNatClampNeg)]) (rest := []) (show decode mt_X8_findPeak.2.1 30 = .ok (.invokevirtual 183, 3) from ds_dec (i := (30, .invokevirtual 183, 3, 0, 0, 501, .int 0)) ok_X8_findPeak 16 rfl) (ds_E.mono h (fun r σ2 hr => ?_)) ⟨zw_X0_sendTable.1, zw_X0_sendTable.2.1, zw_X0_sendTable.2.2, by decide, by decide⟩ (ds_wb_T (p := 501) (by decide +kernel)) zi_X0_sendTable zs_X0_sendTable (by decide) rfl ⟨_, rfl, rfl⟩ (Nat.le_of_ble_eq_true rfl)
  obtain ⟨rfl, h⟩ := hr
  show ds_X mt_X8_findPeak Yc 33 [some (.ref 0), some (.int a1)] [] σ2 Q
  refine ds_blk (ls2 := [some (.ref 0), some (.int a1)]) (st2 := [.ref 11]) (σ2 := σ2) ok_X8_findPeak 17 2 33 37 [ds_k Yc 0 8] rfl rfl rfl rfl ⟨⟨by decide, rfl⟩, trivial⟩ ?_
  refine ds_callV (z := mt_X3_clear) (b := 11) (as := []) (rest := []) (show decode mt_X8_findPeak.2.1 37 = .ok (.invokevirtual 260, 3) from ds_dec (i := (37, .invokevirtual 260, 3, 0, 0, 518, .int 0)) ok_X8_findPeak 19 rfl) (ds_E.mono h (fun r σ3 hr => ?_)) ⟨zw_X3_clear.1, zw_X3_clear.2.1, zw_X3_clear.2.2, by decide, by decide⟩ (ds_wb_T (p := 518) (by decide +kernel)) zi_X3_clear zs_X3_clear (by decide) rfl ⟨_, rfl, rfl⟩ (Nat.le_of_ble_eq_true rfl)
  obtain ⟨rfl, h⟩ := hr
  show ds_X mt_X8_findPeak Yc 40 [some (.ref 0), some (.int a1)] [] σ3 Q
  refine ds_blk (ls2 := [some (.ref 0), some (.int a1)]) (st2 := [.ref 8, .ref 1, .ref 11]) (σ2 := σ3) ok_X8_findPeak 20 6 40 52 [ds_k Yc 0 8, ds_k Yc 0 8, ds_k Yc 0 8] rfl rfl rfl rfl ⟨⟨by decide, rfl⟩, ⟨by decide, rfl⟩, ⟨by decide, rfl⟩, trivial⟩ ?_
  refine ds_callV (z := mt_X3_climb) (b := 11) (as := [.ref 1, .ref 8]) (rest := []) (show decode mt_X8_findPeak.2.1 52 = .ok (.invokevirtual 263, 3) from ds_dec (i := (52, .invokevirtual 263, 3, 0, 0, 522, .int 0)) ok_X8_findPeak 26 rfl) (ds_E.mono h (fun r σ4 hr => ?_)) ⟨zw_X3_climb.1, zw_X3_climb.2.1, zw_X3_climb.2.2, by decide, by decide⟩ (ds_wb_T (p := 522) (by decide +kernel)) zi_X3_climb zs_X3_climb (by decide) rfl ⟨_, rfl, rfl⟩ (Nat.le_of_ble_eq_true rfl)
  obtain ⟨rfl, h⟩ := hr
  show ds_X mt_X8_findPeak Yc 55 [some (.ref 0), some (.int a1)] [] σ4 Q
  exact ds_vret (show decode mt_X8_findPeak.2.1 55 = .ok (.return_, 1) from ds_dec (i := (55, .return_, 1, 0, 0, 0, .int 0)) ok_X8_findPeak 27 rfl) rfl h
def w_X8_growByHundredths_2 : Nat → (v1 : Int32) → (v2 : Int32) → (σ : ds_S) → (Q : Option Value → ds_S → Prop) → Prop
  | 0, _, _, _, _ => False
  | f + 1, v1, v2, σ, Q => (((36 : Int32) ≤ v2 → Q none σ) ∧ (¬ (36 : Int32) ≤ v2 → vp_in v2 36 ∧ vp_in v2 36 ∧ w_X8_growByHundredths_2 f v1 (v2 + (1 : Int32)) (ds_wi σ 60 v2.toNatClampNeg ((q_min ((((σ.1 60 v2.toNatClampNeg).toInt64 * ((100 : Int32) + v1).toInt64) + (99 : Int64)) / (100 : Int64)) (1000000 : Int64)).toInt32)) Q))
theorem x_X8_growByHundredths_2 : ∀ (f : Nat) (v1 : Int32) (v2 : Int32) (g3 : Option Value) (g4 : Option Value) (σ : ds_S) (Q : Option Value → ds_S → Prop), w_X8_growByHundredths_2 f v1 v2 σ Q → ds_X mt_X8_growByHundredths Yc 2 [some (.ref 0), some (.int v1), some (.int v2), g3, g4] [] σ Q := by
  intro f
  induction f with
  | zero => intro v1 v2 g3 g4 σ Q h; exact False.elim h
  | succ f ih =>
    intro v1 v2 g3 g4 σ Q h
    rw [w_X8_growByHundredths_2] at h
    refine ds_blk (ls2 := [some (.ref 0), some (.int v1), some (.int v2), g3, g4]) (st2 := [.int (36 : Int32), .int v2]) (σ2 := σ) ok_X8_growByHundredths 2 2 2 5 [] rfl rfl rfl rfl trivial ?_
    refine ds_ic_ge (show decode mt_X8_growByHundredths.2.1 5 = .ok (.if_icmp .ge 45, 3) from ds_dec (i := (5, .if_icmp .ge 45, 3, 0, 0, 0, .int 0)) ok_X8_growByHundredths 4 rfl) (t := 50) (by decide) (fun hc => ?_) (fun hc => ?_)
    · replace h := h.1 hc
      exact ds_vret (show decode mt_X8_growByHundredths.2.1 50 = .ok (.return_, 1) from ds_dec (i := (50, .return_, 1, 0, 0, 0, .int 0)) ok_X8_growByHundredths 30 rfl) rfl h
    · replace h := h.2 hc
      obtain ⟨o1, h⟩ := h
      refine ds_blk (ls2 := [some (.ref 0), some (.int v1), some (.int v2), some (.long ((σ.1 60 v2.toNatClampNeg).toInt64 * ((100 : Int32) + v1).toInt64)), none]) (st2 := [.long (1000000 : Int64), .long ((((σ.1 60 v2.toNatClampNeg).toInt64 * ((100 : Int32) + v1).toInt64) + (99 : Int64)) / (100 : Int64)), .int v2, .ref 60]) (σ2 := σ) ok_X8_growByHundredths 5 20 8 39 [ds_k Yc 0 8, ds_k Yc 60 10, vp_in v2 36, ds_k Yc 0 8, ¬ (100 : Int64) = 0] rfl rfl rfl rfl ⟨⟨by decide, rfl⟩, ⟨by decide, rfl⟩, o1, ⟨by decide, rfl⟩, (by decide), trivial⟩ ?_
      refine ds_callS (z := mt_J9_min_f86c9) (as := [.long ((((σ.1 60 v2.toNatClampNeg).toInt64 * ((100 : Int32) + v1).toInt64) + (99 : Int64)) / (100 : Int64)), .long (1000000 : Int64)]) (rest := [.int v2, .ref 60]) (show decode mt_X8_growByHundredths.2.1 39 = .ok (.invokestatic 284, 3) from ds_dec (i := (39, .invokestatic 284, 3, 0, 0, 712, .int 0)) ok_X8_growByHundredths 25 rfl) (ds_E.mono (sp_J9_min_f86c9 ((((σ.1 60 v2.toNatClampNeg).toInt64 * ((100 : Int32) + v1).toInt64) + (99 : Int64)) / (100 : Int64)) (1000000 : Int64) σ ) (fun r σ1 hr => ?_)) ⟨zw_J9_min_f86c9.1, zw_J9_min_f86c9.2.1, zw_J9_min_f86c9.2.2, by decide, by decide⟩ (ds_wb_T (p := 712) (by decide +kernel)) zt_J9_min_f86c9 (Nat.le_of_ble_eq_true rfl)
      obtain ⟨x9, rfl, e8, e9⟩ := hr
      rw [e8, e9]
      show ds_X mt_X8_growByHundredths Yc 42 [some (.ref 0), some (.int v1), some (.int v2), some (.long ((σ.1 60 v2.toNatClampNeg).toInt64 * ((100 : Int32) + v1).toInt64)), none] [.long (q_min ((((σ.1 60 v2.toNatClampNeg).toInt64 * ((100 : Int32) + v1).toInt64) + (99 : Int64)) / (100 : Int64)) (1000000 : Int64)), .int v2, .ref 60] σ Q
      obtain ⟨o2, h⟩ := h
      refine ds_blk (ls2 := [some (.ref 0), some (.int v1), some (.int (v2 + (1 : Int32))), some (.long ((σ.1 60 v2.toNatClampNeg).toInt64 * ((100 : Int32) + v1).toInt64)), none]) (st2 := []) (σ2 := (ds_wi σ 60 v2.toNatClampNeg ((q_min ((((σ.1 60 v2.toNatClampNeg).toInt64 * ((100 : Int32) + v1).toInt64) + (99 : Int64)) / (100 : Int64)) (1000000 : Int64)).toInt32))) ok_X8_growByHundredths 26 3 42 47 [ds_k Yc 60 10, vp_in v2 36] rfl rfl rfl rfl ⟨⟨by decide, rfl⟩, o2, trivial⟩ ?_
      refine ds_goto (show decode mt_X8_growByHundredths.2.1 47 = .ok (.goto (-45), 3) from ds_dec (i := (47, .goto (-45), 3, 0, 0, 0, .int 0)) ok_X8_growByHundredths 29 rfl) (t := 2) (by decide) ?_
      exact ih v1 (v2 + (1 : Int32)) _ _ (ds_wi σ 60 v2.toNatClampNeg ((q_min ((((σ.1 60 v2.toNatClampNeg).toInt64 * ((100 : Int32) + v1).toInt64) + (99 : Int64)) / (100 : Int64)) (1000000 : Int64)).toInt32)) Q h
def w_X8_growByHundredths (a1 : Int32) (σ : ds_S) (Q : Option Value → ds_S → Prop) : Prop := ∃ n, w_X8_growByHundredths_2 n a1 (0 : Int32) σ Q
theorem e_X8_growByHundredths (a1 : Int32) (σ : ds_S) (Q : Option Value → ds_S → Prop) (h : w_X8_growByHundredths a1 σ Q) : ds_E mt_X8_growByHundredths Yc [.ref 0, .int a1] σ Q := by
  refine ds_enter (by decide) (Nat.le_of_ble_eq_true rfl) ?_
  show ds_X mt_X8_growByHundredths Yc 0 [some (.ref 0), some (.int a1), none, none, none] [] σ Q
  unfold w_X8_growByHundredths at h
  refine ds_blk (ls2 := [some (.ref 0), some (.int a1), some (.int (0 : Int32)), none, none]) (st2 := []) (σ2 := σ) ok_X8_growByHundredths 0 2 0 2 [] rfl rfl rfl rfl trivial ?_
  obtain ⟨n, h⟩ := h
  refine x_X8_growByHundredths_2 n a1 (0 : Int32) _ _ σ Q h
def w_X8_sumOfLoads_4 : Nat → (v1 : Int32) → (v2 : Int32) → (v3 : Int32) → (σ : ds_S) → (Q : Option Value → ds_S → Prop) → Prop
  | 0, _, _, _, _, _ => False
  | f + 1, v1, v2, v3, σ, Q => (((36 : Int32) ≤ v3 → Q (some (.int v2)) σ) ∧ (¬ (36 : Int32) ≤ v3 → vp_in v1 3 ∧ ds_k Yc (Yc.2.2.2 2 v1.toNatClampNeg) 10 ∧ vp_in v3 (Yc.2.2.1 (Yc.2.2.2 2 v1.toNatClampNeg)) ∧ w_X8_sumOfLoads_4 f v1 (v2 + (σ.1 (Yc.2.2.2 2 v1.toNatClampNeg) v3.toNatClampNeg)) (v3 + (1 : Int32)) σ Q))
theorem x_X8_sumOfLoads_4 : ∀ (f : Nat) (v1 : Int32) (v2 : Int32) (v3 : Int32) (σ : ds_S) (Q : Option Value → ds_S → Prop), w_X8_sumOfLoads_4 f v1 v2 v3 σ Q → ds_X mt_X8_sumOfLoads Yc 4 [some (.ref 0), some (.int v1), some (.int v2), some (.int v3)] [] σ Q := by
  intro f
  induction f with
  | zero => intro v1 v2 v3 σ Q h; exact False.elim h
  | succ f ih =>
    intro v1 v2 v3 σ Q h
    rw [w_X8_sumOfLoads_4] at h
    refine ds_blk (ls2 := [some (.ref 0), some (.int v1), some (.int v2), some (.int v3)]) (st2 := [.int (36 : Int32), .int v3]) (σ2 := σ) ok_X8_sumOfLoads 4 2 4 7 [] rfl rfl rfl rfl trivial ?_
    refine ds_ic_ge (show decode mt_X8_sumOfLoads.2.1 7 = .ok (.if_icmp .ge 20, 3) from ds_dec (i := (7, .if_icmp .ge 20, 3, 0, 0, 0, .int 0)) ok_X8_sumOfLoads 6 rfl) (t := 27) (by decide) (fun hc => ?_) (fun hc => ?_)
    · replace h := h.1 hc
      refine ds_blk (ls2 := [some (.ref 0), some (.int v1), some (.int v2), some (.int v3)]) (st2 := [.int v2]) (σ2 := σ) ok_X8_sumOfLoads 18 1 27 28 [] rfl rfl rfl rfl trivial ?_
      exact ds_iret (show decode mt_X8_sumOfLoads.2.1 28 = .ok (.ireturn, 1) from ds_dec (i := (28, .ireturn, 1, 0, 0, 0, .int 0)) ok_X8_sumOfLoads 19 rfl) rfl h
    · replace h := h.2 hc
      obtain ⟨o1, o2, o3, h⟩ := h
      refine ds_blk (ls2 := [some (.ref 0), some (.int v1), some (.int (v2 + (σ.1 (Yc.2.2.2 2 v1.toNatClampNeg) v3.toNatClampNeg))), some (.int (v3 + (1 : Int32)))]) (st2 := []) (σ2 := σ) ok_X8_sumOfLoads 7 10 10 24 [ds_k Yc 0 8, ds_k Yc 2 14, vp_in v1 3, ds_k Yc (Yc.2.2.2 2 v1.toNatClampNeg) 10, vp_in v3 (Yc.2.2.1 (Yc.2.2.2 2 v1.toNatClampNeg))] rfl rfl rfl rfl ⟨⟨by decide, rfl⟩, ⟨by decide, rfl⟩, o1, o2, o3, trivial⟩ ?_
      refine ds_goto (show decode mt_X8_sumOfLoads.2.1 24 = .ok (.goto (-20), 3) from ds_dec (i := (24, .goto (-20), 3, 0, 0, 0, .int 0)) ok_X8_sumOfLoads 17 rfl) (t := 4) (by decide) ?_
      exact ih v1 (v2 + (σ.1 (Yc.2.2.2 2 v1.toNatClampNeg) v3.toNatClampNeg)) (v3 + (1 : Int32)) σ Q h
def w_X8_sumOfLoads (a1 : Int32) (σ : ds_S) (Q : Option Value → ds_S → Prop) : Prop := ∃ n, w_X8_sumOfLoads_4 n a1 (0 : Int32) (0 : Int32) σ Q
theorem e_X8_sumOfLoads (a1 : Int32) (σ : ds_S) (Q : Option Value → ds_S → Prop) (h : w_X8_sumOfLoads a1 σ Q) : ds_E mt_X8_sumOfLoads Yc [.ref 0, .int a1] σ Q := by
  refine ds_enter (by decide) (Nat.le_of_ble_eq_true rfl) ?_
  show ds_X mt_X8_sumOfLoads Yc 0 [some (.ref 0), some (.int a1), none, none] [] σ Q
  unfold w_X8_sumOfLoads at h
  refine ds_blk (ls2 := [some (.ref 0), some (.int a1), some (.int (0 : Int32)), some (.int (0 : Int32))]) (st2 := []) (σ2 := σ) ok_X8_sumOfLoads 0 4 0 4 [] rfl rfl rfl rfl trivial ?_
  obtain ⟨n, h⟩ := h
  refine x_X8_sumOfLoads_4 n a1 (0 : Int32) (0 : Int32) σ Q h
