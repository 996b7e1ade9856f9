def w_X9_boxes_34 : Nat → (v2 : Int32) → (v3 : Int32) → (σ : ds_S) → (Q : Option Value → ds_S → Prop) → Prop
  | 0, _, _, _, _ => False
  | f + 1, v2, v3, σ, Q => (((108 : Int32) ≤ v3 → Q (some (.int v2)) (ds_wi σ 0 10 (0 : Int32))) ∧ (¬ (108 : Int32) ≤ v3 → vp_in v3 108 ∧ w_X9_boxes_34 f v2 (v3 + (1 : Int32)) (ds_wi σ 7 v3.toNatClampNeg (0 : Int32)) Q))
theorem x_X9_boxes_34 : ∀ (f : Nat) (v2 : Int32) (v3 : Int32) (g1 : Option Value) (σ : ds_S) (Q : Option Value → ds_S → Prop), w_X9_boxes_34 f v2 v3 σ Q → ds_X mt_X9_boxes Ym 34 [some (.ref 0), g1, some (.int v2), some (.int v3)] [] σ Q := by
  intro f
  induction f with
  | zero => intro v2 v3 g1 σ Q h; exact False.elim h
  | succ f ih =>
    intro v2 v3 g1 σ Q h
    rw [w_X9_boxes_34] at h
    refine ds_blk (ls2 := [some (.ref 0), g1, some (.int v2), some (.int v3)]) (st2 := [.int (108 : Int32), .int v3]) (σ2 := σ) ok_X9_boxes 19 2 34 37 [] rfl rfl rfl rfl trivial ?_
    refine ds_ic_ge (show decode mt_X9_boxes.2.1 37 = .ok (.if_icmp .ge 16, 3) from ds_dec (i := (37, .if_icmp .ge 16, 3, 0, 0, 0, .int 0)) ok_X9_boxes 21 rfl) (t := 53) (by decide) (fun hc => ?_) (fun hc => ?_)
    · replace h := h.1 hc
      refine ds_blk (ls2 := [some (.ref 0), g1, some (.int v2), some (.int v3)]) (st2 := [.int v2]) (σ2 := (ds_wi σ 0 10 (0 : Int32))) ok_X9_boxes 29 4 53 59 [ds_k Ym 0 9, (0 : Int32) = 0 ∨ (0 : Int32) = 1] rfl rfl rfl rfl ⟨⟨by decide, rfl⟩, (by decide), trivial⟩ ?_
      exact ds_iret (show decode mt_X9_boxes.2.1 59 = .ok (.ireturn, 1) from ds_dec (i := (59, .ireturn, 1, 0, 0, 0, .int 0)) ok_X9_boxes 33 rfl) rfl h
    · replace h := h.2 hc
      obtain ⟨o1, h⟩ := h
      refine ds_blk (ls2 := [some (.ref 0), g1, some (.int v2), some (.int (v3 + (1 : Int32)))]) (st2 := []) (σ2 := (ds_wi σ 7 v3.toNatClampNeg (0 : Int32))) ok_X9_boxes 22 6 40 50 [ds_k Ym 0 9, ds_k Ym 7 10, vp_in v3 108] rfl rfl rfl rfl ⟨⟨by decide, rfl⟩, ⟨by decide, rfl⟩, o1, trivial⟩ ?_
      refine ds_goto (show decode mt_X9_boxes.2.1 50 = .ok (.goto (-16), 3) from ds_dec (i := (50, .goto (-16), 3, 0, 0, 0, .int 0)) ok_X9_boxes 28 rfl) (t := 34) (by decide) ?_
      exact ih v2 (v3 + (1 : Int32)) _ (ds_wi σ 7 v3.toNatClampNeg (0 : Int32)) Q h
def w_X9_boxes (a1 : Int32) (σ : ds_S) (Q : Option Value → ds_S → Prop) : Prop := ((¬ (q_in a1.toInt64 (2 : Int64) (6 : Int64)) = 0 → ∃ n, w_X9_boxes_34 n (σ.1 0 0) (0 : Int32) (ds_wi (ds_wi σ 0 0 a1) 0 7 (0 : Int32)) Q) ∧ ((q_in a1.toInt64 (2 : Int64) (6 : Int64)) = 0 → Q (some (.int (-2 : Int32))) σ))
theorem e_X9_boxes (a1 : Int32) (σ : ds_S) (Q : Option Value → ds_S → Prop) (h : w_X9_boxes a1 σ Q) : ds_E mt_X9_boxes Ym [.ref 0, .int a1] σ Q := by
  refine ds_enter (by decide) (Nat.le_of_ble_eq_true rfl) ?_
  show ds_X mt_X9_boxes Ym 0 [some (.ref 0), some (.int a1), none, none] [] σ Q
  unfold w_X9_boxes at h
  refine ds_blk (ls2 := [some (.ref 0), some (.int a1), none, none]) (st2 := [.long (6 : Int64), .long (2 : Int64), .long a1.toInt64]) (σ2 := σ) ok_X9_boxes 0 4 0 8 [] rfl rfl rfl rfl trivial ?_
  refine ds_callS (z := mt_X9_in) (as := [.long a1.toInt64, .long (2 : Int64), .long (6 : Int64)]) (rest := []) (show decode mt_X9_boxes.2.1 8 = .ok (.invokestatic 73, 3) from ds_dec (i := (8, .invokestatic 73, 3, 0, 0, 836, .int 0)) ok_X9_boxes 4 rfl) (ds_E.mono (sp_X9_in a1.toInt64 (2 : Int64) (6 : Int64) σ ) (fun r σ1 hr => ?_)) ⟨zw_X9_in.1, zw_X9_in.2.1, zw_X9_in.2.2, by decide, by decide⟩ (ds_wb_T (p := 836) (by decide +kernel)) zt_X9_in (Nat.le_of_ble_eq_true rfl)
  obtain ⟨x9, rfl, e8, e9⟩ := hr
  rw [e8, e9]
  show ds_X mt_X9_boxes Ym 11 [some (.ref 0), some (.int a1), none, none] [.int (q_in a1.toInt64 (2 : Int64) (6 : Int64))] σ Q
  refine ds_if_ne (show decode mt_X9_boxes.2.1 11 = .ok (.ifCond .ne 6, 3) from ds_dec (i := (11, .ifCond .ne 6, 3, 0, 0, 0, .int 0)) ok_X9_boxes 5 rfl) (t := 17) (by decide) (fun hc => ?_) (fun hc => ?_)
  · replace h := h.1 hc
    refine ds_blk (ls2 := [some (.ref 0), some (.int a1), some (.int (σ.1 0 0)), some (.int (0 : Int32))]) (st2 := []) (σ2 := (ds_wi (ds_wi σ 0 0 a1) 0 7 (0 : Int32))) ok_X9_boxes 8 11 17 34 [ds_k Ym 0 9, ds_k Ym 0 9, ds_k Ym 0 9] rfl rfl rfl rfl ⟨⟨by decide, rfl⟩, ⟨by decide, rfl⟩, ⟨by decide, rfl⟩, trivial⟩ ?_
    obtain ⟨n, h⟩ := h
    refine x_X9_boxes_34 n (σ.1 0 0) (0 : Int32) _ (ds_wi (ds_wi σ 0 0 a1) 0 7 (0 : Int32)) Q h
  · replace h := h.2 hc
    refine ds_blk (ls2 := [some (.ref 0), some (.int a1), none, none]) (st2 := [.int (-2 : Int32)]) (σ2 := σ) ok_X9_boxes 6 1 14 16 [] rfl rfl rfl rfl trivial ?_
    exact ds_iret (show decode mt_X9_boxes.2.1 16 = .ok (.ireturn, 1) from ds_dec (i := (16, .ireturn, 1, 0, 0, 0, .int 0)) ok_X9_boxes 7 rfl) rfl h
def w_X9_line (a1 : Int32) (a2 : Int32) (a3 : Int32) (a4 : Int32) (σ : ds_S) (Q : Option Value → ds_S → Prop) : Prop := (((q_bx a1 (σ.1 0 0)) = 0 → Q (some (.int (-1 : Int32))) σ) ∧ (¬ (q_bx a1 (σ.1 0 0)) = 0 → (((q_bx a2 (σ.1 0 0)) = 0 → Q (some (.int (-1 : Int32))) σ) ∧ (¬ (q_bx a2 (σ.1 0 0)) = 0 → ((¬ a1 = a2 → (((q_in a3.toInt64 (1 : Int64) (100 : Int64)) = 0 → Q (some (.int (-2 : Int32))) σ) ∧ (¬ (q_in a3.toInt64 (1 : Int64) (100 : Int64)) = 0 → ((¬ (q_in a4.toInt64 (1 : Int64) (20 : Int64)) = 0 → ((¬ (σ.1 0 7) = (10 : Int32) → vp_in (σ.1 0 7) 10 ∧ vp_in (σ.1 0 7) 10 ∧ vp_in (σ.1 0 7) 10 ∧ vp_in (σ.1 0 7) 10 ∧ vp_in (σ.1 0 7) 10 ∧ vp_in (σ.1 0 7) 10 ∧ Q (some (.int (((σ.1 0 7) + (1 : Int32)) - (1 : Int32)))) (ds_wi (ds_wi (ds_wi (ds_wi (ds_wi (ds_wi (ds_wi (ds_wi σ 1 ((σ.1 0 7).toNatClampNeg) a1) 2 ((σ.1 0 7).toNatClampNeg) a2) 3 ((σ.1 0 7).toNatClampNeg) a3) 4 ((σ.1 0 7).toNatClampNeg) a4) 5 ((σ.1 0 7).toNatClampNeg) (0 : Int32)) 6 ((σ.1 0 7).toNatClampNeg) (0 : Int32)) 0 7 ((σ.1 0 7) + (1 : Int32))) 0 10 (0 : Int32))) ∧ ((σ.1 0 7) = (10 : Int32) → Q (some (.int (-4 : Int32))) σ))) ∧ ((q_in a4.toInt64 (1 : Int64) (20 : Int64)) = 0 → Q (some (.int (-2 : Int32))) σ))))) ∧ (a1 = a2 → Q (some (.int (-1 : Int32))) σ))))))
theorem e_X9_line (a1 : Int32) (a2 : Int32) (a3 : Int32) (a4 : Int32) (σ : ds_S) (Q : Option Value → ds_S → Prop) (h : w_X9_line a1 a2 a3 a4 σ Q) : ds_E mt_X9_line Ym [.ref 0, .int a1, .int a2, .int a3, .int a4] σ Q := by
  refine ds_enter (by decide) (Nat.le_of_ble_eq_true rfl) ?_
  show ds_X mt_X9_line Ym 0 [some (.ref 0), some (.int a1), some (.int a2), some (.int a3), some (.int a4)] [] σ Q
  unfold w_X9_line at h
  refine ds_blk (ls2 := [some (.ref 0), some (.int a1), some (.int a2), some (.int a3), some (.int a4)]) (st2 := [.int a1, .ref 0]) (σ2 := σ) ok_X9_line 0 2 0 2 [] rfl rfl rfl rfl trivial ?_
  refine ds_callV (z := mt_X9_isBox) (b := 0) (as := [.int a1]) (rest := []) (show decode mt_X9_line.2.1 2 = .ok (.invokevirtual 88, 3) from ds_dec (i := (2, .invokevirtual 88, 3, 0, 0, 843, .int 0)) ok_X9_line 2 rfl) (ds_E.mono (sp_X9_isBox a1 σ ) (fun r σ1 hr => ?_)) ⟨zw_X9_isBox.1, zw_X9_isBox.2.1, zw_X9_isBox.2.2, by decide, by decide⟩ (ds_wb_T (p := 843) (by decide +kernel)) zi_X9_isBox zs_X9_isBox (by decide) rfl ⟨_, rfl, rfl⟩ (Nat.le_of_ble_eq_true rfl)
  obtain ⟨x9, rfl, e8, e9⟩ := hr
  rw [e8, e9]
  show ds_X mt_X9_line Ym 5 [some (.ref 0), some (.int a1), some (.int a2), some (.int a3), some (.int a4)] [.int (q_bx a1 (σ.1 0 0))] σ Q
  refine ds_if_eq (show decode mt_X9_line.2.1 5 = .ok (.ifCond .eq 16, 3) from ds_dec (i := (5, .ifCond .eq 16, 3, 0, 0, 0, .int 0)) ok_X9_line 3 rfl) (t := 21) (by decide) (fun hc => ?_) (fun hc => ?_)
  · replace h := h.1 hc
    refine ds_blk (ls2 := [some (.ref 0), some (.int a1), some (.int a2), some (.int a3), some (.int a4)]) (st2 := [.int (-1 : Int32)]) (σ2 := σ) ok_X9_line 11 1 21 22 [] rfl rfl rfl rfl trivial ?_
    exact ds_iret (show decode mt_X9_line.2.1 22 = .ok (.ireturn, 1) from ds_dec (i := (22, .ireturn, 1, 0, 0, 0, .int 0)) ok_X9_line 12 rfl) rfl h
  · replace h := h.2 hc
    refine ds_blk (ls2 := [some (.ref 0), some (.int a1), some (.int a2), some (.int a3), some (.int a4)]) (st2 := [.int a2, .ref 0]) (σ2 := σ) ok_X9_line 4 2 8 10 [] rfl rfl rfl rfl trivial ?_
    refine ds_callV (z := mt_X9_isBox) (b := 0) (as := [.int a2]) (rest := []) (show decode mt_X9_line.2.1 10 = .ok (.invokevirtual 88, 3) from ds_dec (i := (10, .invokevirtual 88, 3, 0, 0, 843, .int 0)) ok_X9_line 6 rfl) (ds_E.mono (sp_X9_isBox a2 σ ) (fun r σ2 hr => ?_)) ⟨zw_X9_isBox.1, zw_X9_isBox.2.1, zw_X9_isBox.2.2, by decide, by decide⟩ (ds_wb_T (p := 843) (by decide +kernel)) zi_X9_isBox zs_X9_isBox (by decide) rfl ⟨_, rfl, rfl⟩ (Nat.le_of_ble_eq_true rfl)
    obtain ⟨x9, rfl, e8, e9⟩ := hr
    rw [e8, e9]
    show ds_X mt_X9_line Ym 13 [some (.ref 0), some (.int a1), some (.int a2), some (.int a3), some (.int a4)] [.int (q_bx a2 (σ.1 0 0))] σ Q
    refine ds_if_eq (show decode mt_X9_line.2.1 13 = .ok (.ifCond .eq 8, 3) from ds_dec (i := (13, .ifCond .eq 8, 3, 0, 0, 0, .int 0)) ok_X9_line 7 rfl) (t := 21) (by decide) (fun hc => ?_) (fun hc => ?_)
    · replace h := h.1 hc
      refine ds_blk (ls2 := [some (.ref 0), some (.int a1), some (.int a2), some (.int a3), some (.int a4)]) (st2 := [.int (-1 : Int32)]) (σ2 := σ) ok_X9_line 11 1 21 22 [] rfl rfl rfl rfl trivial ?_
      exact ds_iret (show decode mt_X9_line.2.1 22 = .ok (.ireturn, 1) from ds_dec (i := (22, .ireturn, 1, 0, 0, 0, .int 0)) ok_X9_line 12 rfl) rfl h
    · replace h := h.2 hc
      refine ds_blk (ls2 := [some (.ref 0), some (.int a1), some (.int a2), some (.int a3), some (.int a4)]) (st2 := [.int a2, .int a1]) (σ2 := σ) ok_X9_line 8 2 16 18 [] rfl rfl rfl rfl trivial ?_
      refine ds_ic_ne (show decode mt_X9_line.2.1 18 = .ok (.if_icmp .ne 5, 3) from ds_dec (i := (18, .if_icmp .ne 5, 3, 0, 0, 0, .int 0)) ok_X9_line 10 rfl) (t := 23) (by decide) (fun hc => ?_) (fun hc => ?_)
      · replace h := h.1 hc
        refine ds_blk (ls2 := [some (.ref 0), some (.int a1), some (.int a2), some (.int a3), some (.int a4)]) (st2 := [.long (100 : Int64), .long (1 : Int64), .long a3.toInt64]) (σ2 := σ) ok_X9_line 13 4 23 29 [] rfl rfl rfl rfl trivial ?_
        refine ds_callS (z := mt_X9_in) (as := [.long a3.toInt64, .long (1 : Int64), .long (100 : Int64)]) (rest := []) (show decode mt_X9_line.2.1 29 = .ok (.invokestatic 73, 3) from ds_dec (i := (29, .invokestatic 73, 3, 0, 0, 836, .int 0)) ok_X9_line 17 rfl) (ds_E.mono (sp_X9_in a3.toInt64 (1 : Int64) (100 : Int64) σ ) (fun r σ3 hr => ?_)) ⟨zw_X9_in.1, zw_X9_in.2.1, zw_X9_in.2.2, by decide, by decide⟩ (ds_wb_T (p := 836) (by decide +kernel)) zt_X9_in (Nat.le_of_ble_eq_true rfl)
        obtain ⟨x9, rfl, e8, e9⟩ := hr
        rw [e8, e9]
        show ds_X mt_X9_line Ym 32 [some (.ref 0), some (.int a1), some (.int a2), some (.int a3), some (.int a4)] [.int (q_in a3.toInt64 (1 : Int64) (100 : Int64))] σ Q
        refine ds_if_eq (show decode mt_X9_line.2.1 32 = .ok (.ifCond .eq 16, 3) from ds_dec (i := (32, .ifCond .eq 16, 3, 0, 0, 0, .int 0)) ok_X9_line 18 rfl) (t := 48) (by decide) (fun hc => ?_) (fun hc => ?_)
        · replace h := h.1 hc
          refine ds_blk (ls2 := [some (.ref 0), some (.int a1), some (.int a2), some (.int a3), some (.int a4)]) (st2 := [.int (-2 : Int32)]) (σ2 := σ) ok_X9_line 25 1 48 50 [] rfl rfl rfl rfl trivial ?_
          exact ds_iret (show decode mt_X9_line.2.1 50 = .ok (.ireturn, 1) from ds_dec (i := (50, .ireturn, 1, 0, 0, 0, .int 0)) ok_X9_line 26 rfl) rfl h
        · replace h := h.2 hc
          refine ds_blk (ls2 := [some (.ref 0), some (.int a1), some (.int a2), some (.int a3), some (.int a4)]) (st2 := [.long (20 : Int64), .long (1 : Int64), .long a4.toInt64]) (σ2 := σ) ok_X9_line 19 4 35 42 [] rfl rfl rfl rfl trivial ?_
          refine ds_callS (z := mt_X9_in) (as := [.long a4.toInt64, .long (1 : Int64), .long (20 : Int64)]) (rest := []) (show decode mt_X9_line.2.1 42 = .ok (.invokestatic 73, 3) from ds_dec (i := (42, .invokestatic 73, 3, 0, 0, 836, .int 0)) ok_X9_line 23 rfl) (ds_E.mono (sp_X9_in a4.toInt64 (1 : Int64) (20 : Int64) σ ) (fun r σ4 hr => ?_)) ⟨zw_X9_in.1, zw_X9_in.2.1, zw_X9_in.2.2, by decide, by decide⟩ (ds_wb_T (p := 836) (by decide +kernel)) zt_X9_in (Nat.le_of_ble_eq_true rfl)
          obtain ⟨x9, rfl, e8, e9⟩ := hr
          rw [e8, e9]
          show ds_X mt_X9_line Ym 45 [some (.ref 0), some (.int a1), some (.int a2), some (.int a3), some (.int a4)] [.int (q_in a4.toInt64 (1 : Int64) (20 : Int64))] σ Q
          refine ds_if_ne (show decode mt_X9_line.2.1 45 = .ok (.ifCond .ne 6, 3) from ds_dec (i := (45, .ifCond .ne 6, 3, 0, 0, 0, .int 0)) ok_X9_line 24 rfl) (t := 51) (by decide) (fun hc => ?_) (fun hc => ?_)
          · replace h := h.1 hc
            refine ds_blk (ls2 := [some (.ref 0), some (.int a1), some (.int a2), some (.int a3), some (.int a4)]) (st2 := [.int (10 : Int32), .int (σ.1 0 7)]) (σ2 := σ) ok_X9_line 27 3 51 57 [ds_k Ym 0 9] rfl rfl rfl rfl ⟨⟨by decide, rfl⟩, trivial⟩ ?_
            refine ds_ic_ne (show decode mt_X9_line.2.1 57 = .ok (.if_icmp .ne 6, 3) from ds_dec (i := (57, .if_icmp .ne 6, 3, 0, 0, 0, .int 0)) ok_X9_line 30 rfl) (t := 63) (by decide) (fun hc => ?_) (fun hc => ?_)
            · replace h := h.1 hc
              obtain ⟨o1, o2, o3, o4, o5, o6, h⟩ := h
              refine ds_blk (ls2 := [some (.ref 0), some (.int a1), some (.int a2), some (.int a3), some (.int a4)]) (st2 := [.int (((σ.1 0 7) + (1 : Int32)) - (1 : Int32))]) (σ2 := (ds_wi (ds_wi (ds_wi (ds_wi (ds_wi (ds_wi (ds_wi (ds_wi σ 1 ((σ.1 0 7).toNatClampNeg) a1) 2 ((σ.1 0 7).toNatClampNeg) a2) 3 ((σ.1 0 7).toNatClampNeg) a3) 4 ((σ.1 0 7).toNatClampNeg) a4) 5 ((σ.1 0 7).toNatClampNeg) (0 : Int32)) 6 ((σ.1 0 7).toNatClampNeg) (0 : Int32)) 0 7 ((σ.1 0 7) + (1 : Int32))) 0 10 (0 : Int32))) ok_X9_line 33 49 63 145 [ds_k Ym 0 9, ds_k Ym 0 9, ds_k Ym 1 10, vp_in (σ.1 0 7) 10, ds_k Ym 0 9, ds_k Ym 0 9, ds_k Ym 2 10, vp_in (σ.1 0 7) 10, ds_k Ym 0 9, ds_k Ym 0 9, ds_k Ym 3 10, vp_in (σ.1 0 7) 10, ds_k Ym 0 9, ds_k Ym 0 9, ds_k Ym 4 10, vp_in (σ.1 0 7) 10, ds_k Ym 0 9, ds_k Ym 0 9, ds_k Ym 5 12, vp_in (σ.1 0 7) 10, ds_k Ym 0 9, ds_k Ym 0 9, ds_k Ym 6 12, vp_in (σ.1 0 7) 10, ds_k Ym 0 9, ds_k Ym 0 9, ds_k Ym 0 9, (0 : Int32) = 0 ∨ (0 : Int32) = 1, ds_k Ym 0 9] rfl rfl rfl rfl ⟨⟨by decide, rfl⟩, ⟨by decide, rfl⟩, ⟨by decide, rfl⟩, o1, ⟨by decide, rfl⟩, ⟨by decide, rfl⟩, ⟨by decide, rfl⟩, o2, ⟨by decide, rfl⟩, ⟨by decide, rfl⟩, ⟨by decide, rfl⟩, o3, ⟨by decide, rfl⟩, ⟨by decide, rfl⟩, ⟨by decide, rfl⟩, o4, ⟨by decide, rfl⟩, ⟨by decide, rfl⟩, ⟨by decide, rfl⟩, o5, ⟨by decide, rfl⟩, ⟨by decide, rfl⟩, ⟨by decide, rfl⟩, o6, ⟨by decide, rfl⟩, ⟨by decide, rfl⟩, ⟨by decide, rfl⟩, (by decide), ⟨by decide, rfl⟩, trivial⟩ ?_
              exact ds_iret (show decode mt_X9_line.2.1 145 = .ok (.ireturn, 1) from ds_dec (i := (145, .ireturn, 1, 0, 0, 0, .int 0)) ok_X9_line 82 rfl) rfl h
            · replace h := h.2 hc
              refine ds_blk (ls2 := [some (.ref 0), some (.int a1), some (.int a2), some (.int a3), some (.int a4)]) (st2 := [.int (-4 : Int32)]) (σ2 := σ) ok_X9_line 31 1 60 62 [] rfl rfl rfl rfl trivial ?_
              exact ds_iret (show decode mt_X9_line.2.1 62 = .ok (.ireturn, 1) from ds_dec (i := (62, .ireturn, 1, 0, 0, 0, .int 0)) ok_X9_line 32 rfl) rfl h
          · replace h := h.2 hc
            refine ds_blk (ls2 := [some (.ref 0), some (.int a1), some (.int a2), some (.int a3), some (.int a4)]) (st2 := [.int (-2 : Int32)]) (σ2 := σ) ok_X9_line 25 1 48 50 [] rfl rfl rfl rfl trivial ?_
            exact ds_iret (show decode mt_X9_line.2.1 50 = .ok (.ireturn, 1) from ds_dec (i := (50, .ireturn, 1, 0, 0, 0, .int 0)) ok_X9_line 26 rfl) rfl h
      · replace h := h.2 hc
        refine ds_blk (ls2 := [some (.ref 0), some (.int a1), some (.int a2), some (.int a3), some (.int a4)]) (st2 := [.int (-1 : Int32)]) (σ2 := σ) ok_X9_line 11 1 21 22 [] rfl rfl rfl rfl trivial ?_
        exact ds_iret (show decode mt_X9_line.2.1 22 = .ok (.ireturn, 1) from ds_dec (i := (22, .ireturn, 1, 0, 0, 0, .int 0)) ok_X9_line 12 rfl) rfl h
def w_X9_about (a1 : Int32) (a2 : Int32) (σ : ds_S) (Q : Option Value → ds_S → Prop) : Prop := ((¬ (q_bx a1 (σ.1 0 7)) = 0 → ((a2.toInt < 0 ∨ 5 < a2.toInt → Q (some (.int (-2 : Int32))) σ) ∧ (a2 = (0 : Int32) → vp_in a1 10 ∧ Q (some (.int (σ.1 1 a1.toNatClampNeg))) σ) ∧ (a2 = (1 : Int32) → vp_in a1 10 ∧ Q (some (.int (σ.1 2 a1.toNatClampNeg))) σ) ∧ (a2 = (2 : Int32) → vp_in a1 10 ∧ Q (some (.int (σ.1 3 a1.toNatClampNeg))) σ) ∧ (a2 = (3 : Int32) → vp_in a1 10 ∧ Q (some (.int (σ.1 4 a1.toNatClampNeg))) σ) ∧ (a2 = (4 : Int32) → vp_in a1 10 ∧ (((σ.1 5 a1.toNatClampNeg) = 0 → Q (some (.int (0 : Int32))) σ) ∧ (¬ (σ.1 5 a1.toNatClampNeg) = 0 → Q (some (.int (1 : Int32))) σ))) ∧ (a2 = (5 : Int32) → vp_in a1 10 ∧ (((σ.1 6 a1.toNatClampNeg) = 0 → Q (some (.int (0 : Int32))) σ) ∧ (¬ (σ.1 6 a1.toNatClampNeg) = 0 → Q (some (.int (1 : Int32))) σ))))) ∧ ((q_bx a1 (σ.1 0 7)) = 0 → Q (some (.int (-1 : Int32))) σ))
theorem e_X9_about (a1 : Int32) (a2 : Int32) (σ : ds_S) (Q : Option Value → ds_S → Prop) (h : w_X9_about a1 a2 σ Q) : ds_E mt_X9_about Ym [.ref 0, .int a1, .int a2] σ Q := by
  refine ds_enter (by decide) (Nat.le_of_ble_eq_true rfl) ?_
  show ds_X mt_X9_about Ym 0 [some (.ref 0), some (.int a1), some (.int a2)] [] σ Q
  unfold w_X9_about at h
  refine ds_blk (ls2 := [some (.ref 0), some (.int a1), some (.int a2)]) (st2 := [.int a1, .ref 0]) (σ2 := σ) ok_X9_about 0 2 0 2 [] rfl rfl rfl rfl trivial ?_
  refine ds_callV (z := mt_X9_isLine) (b := 0) (as := [.int a1]) (rest := []) (show decode mt_X9_about.2.1 2 = .ok (.invokevirtual 96, 3) from ds_dec (i := (2, .invokevirtual 96, 3, 0, 0, 853, .int 0)) ok_X9_about 2 rfl) (ds_E.mono (sp_X9_isLine a1 σ ) (fun r σ1 hr => ?_)) ⟨zw_X9_isLine.1, zw_X9_isLine.2.1, zw_X9_isLine.2.2, by decide, by decide⟩ (ds_wb_T (p := 853) (by decide +kernel)) zi_X9_isLine zs_X9_isLine (by decide) rfl ⟨_, rfl, rfl⟩ (Nat.le_of_ble_eq_true rfl)
  obtain ⟨x9, rfl, e8, e9⟩ := hr
  rw [e8, e9]
  show ds_X mt_X9_about Ym 5 [some (.ref 0), some (.int a1), some (.int a2)] [.int (q_bx a1 (σ.1 0 7))] σ Q
  refine ds_if_ne (show decode mt_X9_about.2.1 5 = .ok (.ifCond .ne 5, 3) from ds_dec (i := (5, .ifCond .ne 5, 3, 0, 0, 0, .int 0)) ok_X9_about 3 rfl) (t := 10) (by decide) (fun hc => ?_) (fun hc => ?_)
  · replace h := h.1 hc
    refine ds_blk (ls2 := [some (.ref 0), some (.int a1), some (.int a2)]) (st2 := [.int a2]) (σ2 := σ) ok_X9_about 6 1 10 11 [] rfl rfl rfl rfl trivial ?_
    refine ds_table (show decode mt_X9_about.2.1 11 = .ok (.tableswitch 95 0 5 #[37, 44, 51, 58, 65, 80], 37) from ds_dec (i := (11, .tableswitch 95 0 5 #[37, 44, 51, 58, 65, 80], 37, 0, 0, 0, .int 0)) ok_X9_about 7 rfl) 106 (by decide) (fun hc => ?_) (fun hc1 hc2 => ?_)
    · replace h := h.1 hc
      refine ds_blk (ls2 := [some (.ref 0), some (.int a1), some (.int a2)]) (st2 := [.int (-2 : Int32)]) (σ2 := σ) ok_X9_about 46 1 106 108 [] rfl rfl rfl rfl trivial ?_
      exact ds_iret (show decode mt_X9_about.2.1 108 = .ok (.ireturn, 1) from ds_dec (i := (108, .ireturn, 1, 0, 0, 0, .int 0)) ok_X9_about 47 rfl) rfl h
    · have hcs : a2.toInt = 0 ∨ a2.toInt = 1 ∨ a2.toInt = 2 ∨ a2.toInt = 3 ∨ a2.toInt = 4 ∨ a2.toInt = 5 := by omega
      rcases hcs with e | e | e | e | e | e
      · refine ⟨37, 48, by rw [e]; rfl, by decide, ?_⟩
        replace h := h.2.1 (Int32.toInt_inj.mp (by rw [e]; rfl))
        obtain ⟨o1, h⟩ := h
        refine ds_blk (ls2 := [some (.ref 0), some (.int a1), some (.int a2)]) (st2 := [.int (σ.1 1 a1.toNatClampNeg)]) (σ2 := σ) ok_X9_about 8 4 48 54 [ds_k Ym 0 9, ds_k Ym 1 10, vp_in a1 10] rfl rfl rfl rfl ⟨⟨by decide, rfl⟩, ⟨by decide, rfl⟩, o1, trivial⟩ ?_
        exact ds_iret (show decode mt_X9_about.2.1 54 = .ok (.ireturn, 1) from ds_dec (i := (54, .ireturn, 1, 0, 0, 0, .int 0)) ok_X9_about 12 rfl) rfl h
      · refine ⟨44, 55, by rw [e]; rfl, by decide, ?_⟩
        replace h := h.2.2.1 (Int32.toInt_inj.mp (by rw [e]; rfl))
        obtain ⟨o2, h⟩ := h
        refine ds_blk (ls2 := [some (.ref 0), some (.int a1), some (.int a2)]) (st2 := [.int (σ.1 2 a1.toNatClampNeg)]) (σ2 := σ) ok_X9_about 13 4 55 61 [ds_k Ym 0 9, ds_k Ym 2 10, vp_in a1 10] rfl rfl rfl rfl ⟨⟨by decide, rfl⟩, ⟨by decide, rfl⟩, o2, trivial⟩ ?_
        exact ds_iret (show decode mt_X9_about.2.1 61 = .ok (.ireturn, 1) from ds_dec (i := (61, .ireturn, 1, 0, 0, 0, .int 0)) ok_X9_about 17 rfl) rfl h
      · refine ⟨51, 62, by rw [e]; rfl, by decide, ?_⟩
        replace h := h.2.2.2.1 (Int32.toInt_inj.mp (by rw [e]; rfl))
        obtain ⟨o3, h⟩ := h
        refine ds_blk (ls2 := [some (.ref 0), some (.int a1), some (.int a2)]) (st2 := [.int (σ.1 3 a1.toNatClampNeg)]) (σ2 := σ) ok_X9_about 18 4 62 68 [ds_k Ym 0 9, ds_k Ym 3 10, vp_in a1 10] rfl rfl rfl rfl ⟨⟨by decide, rfl⟩, ⟨by decide, rfl⟩, o3, trivial⟩ ?_
        exact ds_iret (show decode mt_X9_about.2.1 68 = .ok (.ireturn, 1) from ds_dec (i := (68, .ireturn, 1, 0, 0, 0, .int 0)) ok_X9_about 22 rfl) rfl h
      · refine ⟨58, 69, by rw [e]; rfl, by decide, ?_⟩
        replace h := h.2.2.2.2.1 (Int32.toInt_inj.mp (by rw [e]; rfl))
        obtain ⟨o4, h⟩ := h
        refine ds_blk (ls2 := [some (.ref 0), some (.int a1), some (.int a2)]) (st2 := [.int (σ.1 4 a1.toNatClampNeg)]) (σ2 := σ) ok_X9_about 23 4 69 75 [ds_k Ym 0 9, ds_k Ym 4 10, vp_in a1 10] rfl rfl rfl rfl ⟨⟨by decide, rfl⟩, ⟨by decide, rfl⟩, o4, trivial⟩ ?_
        exact ds_iret (show decode mt_X9_about.2.1 75 = .ok (.ireturn, 1) from ds_dec (i := (75, .ireturn, 1, 0, 0, 0, .int 0)) ok_X9_about 27 rfl) rfl h
      · refine ⟨65, 76, by rw [e]; rfl, by decide, ?_⟩
        replace h := h.2.2.2.2.2.1 (Int32.toInt_inj.mp (by rw [e]; rfl))
        obtain ⟨o5, h⟩ := h
        refine ds_blk (ls2 := [some (.ref 0), some (.int a1), some (.int a2)]) (st2 := [.int (σ.1 5 a1.toNatClampNeg)]) (σ2 := σ) ok_X9_about 28 4 76 82 [ds_k Ym 0 9, ds_k Ym 5 12, vp_in a1 10] rfl rfl rfl rfl ⟨⟨by decide, rfl⟩, ⟨by decide, rfl⟩, o5, trivial⟩ ?_
        refine ds_if_eq (show decode mt_X9_about.2.1 82 = .ok (.ifCond .eq 7, 3) from ds_dec (i := (82, .ifCond .eq 7, 3, 0, 0, 0, .int 0)) ok_X9_about 32 rfl) (t := 89) (by decide) (fun hc => ?_) (fun hc => ?_)
        · replace h := h.1 hc
          refine ds_blk (ls2 := [some (.ref 0), some (.int a1), some (.int a2)]) (st2 := [.int (0 : Int32)]) (σ2 := σ) ok_X9_about 35 1 89 90 [] rfl rfl rfl rfl trivial ?_
          exact ds_iret (show decode mt_X9_about.2.1 90 = .ok (.ireturn, 1) from ds_dec (i := (90, .ireturn, 1, 0, 0, 0, .int 0)) ok_X9_about 36 rfl) rfl h
        · replace h := h.2 hc
          refine ds_blk (ls2 := [some (.ref 0), some (.int a1), some (.int a2)]) (st2 := [.int (1 : Int32)]) (σ2 := σ) ok_X9_about 33 1 85 86 [] rfl rfl rfl rfl trivial ?_
          refine ds_goto (show decode mt_X9_about.2.1 86 = .ok (.goto 4, 3) from ds_dec (i := (86, .goto 4, 3, 0, 0, 0, .int 0)) ok_X9_about 34 rfl) (t := 90) (by decide) ?_
          exact ds_iret (show decode mt_X9_about.2.1 90 = .ok (.ireturn, 1) from ds_dec (i := (90, .ireturn, 1, 0, 0, 0, .int 0)) ok_X9_about 36 rfl) rfl h
      · refine ⟨80, 91, by rw [e]; rfl, by decide, ?_⟩
        replace h := h.2.2.2.2.2.2 (Int32.toInt_inj.mp (by rw [e]; rfl))
        obtain ⟨o6, h⟩ := h
        refine ds_blk (ls2 := [some (.ref 0), some (.int a1), some (.int a2)]) (st2 := [.int (σ.1 6 a1.toNatClampNeg)]) (σ2 := σ) ok_X9_about 37 4 91 97 [ds_k Ym 0 9, ds_k Ym 6 12, vp_in a1 10] rfl rfl rfl rfl ⟨⟨by decide, rfl⟩, ⟨by decide, rfl⟩, o6, trivial⟩ ?_
        refine ds_if_eq (show decode mt_X9_about.2.1 97 = .ok (.ifCond .eq 7, 3) from ds_dec (i := (97, .ifCond .eq 7, 3, 0, 0, 0, .int 0)) ok_X9_about 41 rfl) (t := 104) (by decide) (fun hc => ?_) (fun hc => ?_)
        · replace h := h.1 hc
          refine ds_blk (ls2 := [some (.ref 0), some (.int a1), some (.int a2)]) (st2 := [.int (0 : Int32)]) (σ2 := σ) ok_X9_about 44 1 104 105 [] rfl rfl rfl rfl trivial ?_
          exact ds_iret (show decode mt_X9_about.2.1 105 = .ok (.ireturn, 1) from ds_dec (i := (105, .ireturn, 1, 0, 0, 0, .int 0)) ok_X9_about 45 rfl) rfl h
        · replace h := h.2 hc
          refine ds_blk (ls2 := [some (.ref 0), some (.int a1), some (.int a2)]) (st2 := [.int (1 : Int32)]) (σ2 := σ) ok_X9_about 42 1 100 101 [] rfl rfl rfl rfl trivial ?_
          refine ds_goto (show decode mt_X9_about.2.1 101 = .ok (.goto 4, 3) from ds_dec (i := (101, .goto 4, 3, 0, 0, 0, .int 0)) ok_X9_about 43 rfl) (t := 105) (by decide) ?_
          exact ds_iret (show decode mt_X9_about.2.1 105 = .ok (.ireturn, 1) from ds_dec (i := (105, .ireturn, 1, 0, 0, 0, .int 0)) ok_X9_about 45 rfl) rfl h
  · replace h := h.2 hc
    refine ds_blk (ls2 := [some (.ref 0), some (.int a1), some (.int a2)]) (st2 := [.int (-1 : Int32)]) (σ2 := σ) ok_X9_about 4 1 8 9 [] rfl rfl rfl rfl trivial ?_
    exact ds_iret (show decode mt_X9_about.2.1 9 = .ok (.ireturn, 1) from ds_dec (i := (9, .ireturn, 1, 0, 0, 0, .int 0)) ok_X9_about 5 rfl) rfl h
def w_X9_weigh (a1 : Int32) (a2 : Int32) (σ : ds_S) (Q : Option Value → ds_S → Prop) : Prop := ((¬ (q_bx a1 (σ.1 0 7)) = 0 → ((¬ (q_in a2.toInt64 (1 : Int64) (20 : Int64)) = 0 → vp_in a1 10 ∧ (((σ.1 5 a1.toNatClampNeg) = 0 → vp_in a1 10 ∧ vp_in a1 10 ∧ Q (some (.int (σ.1 4 a1.toNatClampNeg))) (ds_wi (ds_wi σ 4 a1.toNatClampNeg a2) 0 10 (0 : Int32))) ∧ (¬ (σ.1 5 a1.toNatClampNeg) = 0 → Q (some (.int (-5 : Int32))) σ))) ∧ ((q_in a2.toInt64 (1 : Int64) (20 : Int64)) = 0 → Q (some (.int (-2 : Int32))) σ))) ∧ ((q_bx a1 (σ.1 0 7)) = 0 → Q (some (.int (-1 : Int32))) σ))
theorem e_X9_weigh (a1 : Int32) (a2 : Int32) (σ : ds_S) (Q : Option Value → ds_S → Prop) (h : w_X9_weigh a1 a2 σ Q) : ds_E mt_X9_weigh Ym [.ref 0, .int a1, .int a2] σ Q := by
  refine ds_enter (by decide) (Nat.le_of_ble_eq_true rfl) ?_
  show ds_X mt_X9_weigh Ym 0 [some (.ref 0), some (.int a1), some (.int a2), none] [] σ Q
  unfold w_X9_weigh at h
  refine ds_blk (ls2 := [some (.ref 0), some (.int a1), some (.int a2), none]) (st2 := [.int a1, .ref 0]) (σ2 := σ) ok_X9_weigh 0 2 0 2 [] rfl rfl rfl rfl trivial ?_
  refine ds_callV (z := mt_X9_isLine) (b := 0) (as := [.int a1]) (rest := []) (show decode mt_X9_weigh.2.1 2 = .ok (.invokevirtual 96, 3) from ds_dec (i := (2, .invokevirtual 96, 3, 0, 0, 853, .int 0)) ok_X9_weigh 2 rfl) (ds_E.mono (sp_X9_isLine a1 σ ) (fun r σ1 hr => ?_)) ⟨zw_X9_isLine.1, zw_X9_isLine.2.1, zw_X9_isLine.2.2, by decide, by decide⟩ (ds_wb_T (p := 853) (by decide +kernel)) zi_X9_isLine zs_X9_isLine (by decide) rfl ⟨_, rfl, rfl⟩ (Nat.le_of_ble_eq_true rfl)
  obtain ⟨x9, rfl, e8, e9⟩ := hr
  rw [e8, e9]
  show ds_X mt_X9_weigh Ym 5 [some (.ref 0), some (.int a1), some (.int a2), none] [.int (q_bx a1 (σ.1 0 7))] σ Q
  refine ds_if_ne (show decode mt_X9_weigh.2.1 5 = .ok (.ifCond .ne 5, 3) from ds_dec (i := (5, .ifCond .ne 5, 3, 0, 0, 0, .int 0)) ok_X9_weigh 3 rfl) (t := 10) (by decide) (fun hc => ?_) (fun hc => ?_)
  · replace h := h.1 hc
    refine ds_blk (ls2 := [some (.ref 0), some (.int a1), some (.int a2), none]) (st2 := [.long (20 : Int64), .long (1 : Int64), .long a2.toInt64]) (σ2 := σ) ok_X9_weigh 6 4 10 16 [] rfl rfl rfl rfl trivial ?_
    refine ds_callS (z := mt_X9_in) (as := [.long a2.toInt64, .long (1 : Int64), .long (20 : Int64)]) (rest := []) (show decode mt_X9_weigh.2.1 16 = .ok (.invokestatic 73, 3) from ds_dec (i := (16, .invokestatic 73, 3, 0, 0, 836, .int 0)) ok_X9_weigh 10 rfl) (ds_E.mono (sp_X9_in a2.toInt64 (1 : Int64) (20 : Int64) σ ) (fun r σ2 hr => ?_)) ⟨zw_X9_in.1, zw_X9_in.2.1, zw_X9_in.2.2, by decide, by decide⟩ (ds_wb_T (p := 836) (by decide +kernel)) zt_X9_in (Nat.le_of_ble_eq_true rfl)
    obtain ⟨x9, rfl, e8, e9⟩ := hr
    rw [e8, e9]
    show ds_X mt_X9_weigh Ym 19 [some (.ref 0), some (.int a1), some (.int a2), none] [.int (q_in a2.toInt64 (1 : Int64) (20 : Int64))] σ Q
    refine ds_if_ne (show decode mt_X9_weigh.2.1 19 = .ok (.ifCond .ne 6, 3) from ds_dec (i := (19, .ifCond .ne 6, 3, 0, 0, 0, .int 0)) ok_X9_weigh 11 rfl) (t := 25) (by decide) (fun hc => ?_) (fun hc => ?_)
    · replace h := h.1 hc
      obtain ⟨o1, h⟩ := h
      refine ds_blk (ls2 := [some (.ref 0), some (.int a1), some (.int a2), none]) (st2 := [.int (σ.1 5 a1.toNatClampNeg)]) (σ2 := σ) ok_X9_weigh 14 4 25 31 [ds_k Ym 0 9, ds_k Ym 5 12, vp_in a1 10] rfl rfl rfl rfl ⟨⟨by decide, rfl⟩, ⟨by decide, rfl⟩, o1, trivial⟩ ?_
      refine ds_if_eq (show decode mt_X9_weigh.2.1 31 = .ok (.ifCond .eq 6, 3) from ds_dec (i := (31, .ifCond .eq 6, 3, 0, 0, 0, .int 0)) ok_X9_weigh 18 rfl) (t := 37) (by decide) (fun hc => ?_) (fun hc => ?_)
      · replace h := h.1 hc
        obtain ⟨o2, o3, h⟩ := h
        refine ds_blk (ls2 := [some (.ref 0), some (.int a1), some (.int a2), some (.int (σ.1 4 a1.toNatClampNeg))]) (st2 := [.int (σ.1 4 a1.toNatClampNeg)]) (σ2 := (ds_wi (ds_wi σ 4 a1.toNatClampNeg a2) 0 10 (0 : Int32))) ok_X9_weigh 21 14 37 57 [ds_k Ym 0 9, ds_k Ym 4 10, vp_in a1 10, ds_k Ym 0 9, ds_k Ym 4 10, vp_in a1 10, ds_k Ym 0 9, (0 : Int32) = 0 ∨ (0 : Int32) = 1] rfl rfl rfl rfl ⟨⟨by decide, rfl⟩, ⟨by decide, rfl⟩, o2, ⟨by decide, rfl⟩, ⟨by decide, rfl⟩, o3, ⟨by decide, rfl⟩, (by decide), trivial⟩ ?_
        exact ds_iret (show decode mt_X9_weigh.2.1 57 = .ok (.ireturn, 1) from ds_dec (i := (57, .ireturn, 1, 0, 0, 0, .int 0)) ok_X9_weigh 35 rfl) rfl h
      · replace h := h.2 hc
        refine ds_blk (ls2 := [some (.ref 0), some (.int a1), some (.int a2), none]) (st2 := [.int (-5 : Int32)]) (σ2 := σ) ok_X9_weigh 19 1 34 36 [] rfl rfl rfl rfl trivial ?_
        exact ds_iret (show decode mt_X9_weigh.2.1 36 = .ok (.ireturn, 1) from ds_dec (i := (36, .ireturn, 1, 0, 0, 0, .int 0)) ok_X9_weigh 20 rfl) rfl h
    · replace h := h.2 hc
      refine ds_blk (ls2 := [some (.ref 0), some (.int a1), some (.int a2), none]) (st2 := [.int (-2 : Int32)]) (σ2 := σ) ok_X9_weigh 12 1 22 24 [] rfl rfl rfl rfl trivial ?_
      exact ds_iret (show decode mt_X9_weigh.2.1 24 = .ok (.ireturn, 1) from ds_dec (i := (24, .ireturn, 1, 0, 0, 0, .int 0)) ok_X9_weigh 13 rfl) rfl h
  · replace h := h.2 hc
    refine ds_blk (ls2 := [some (.ref 0), some (.int a1), some (.int a2), none]) (st2 := [.int (-1 : Int32)]) (σ2 := σ) ok_X9_weigh 4 1 8 9 [] rfl rfl rfl rfl trivial ?_
    exact ds_iret (show decode mt_X9_weigh.2.1 9 = .ok (.ireturn, 1) from ds_dec (i := (9, .ireturn, 1, 0, 0, 0, .int 0)) ok_X9_weigh 5 rfl) rfl h
def w_X9_mark_53 (v1 : Int32) (v2 : Int32) (v3 : Int32) (t0 : Int32) (σ : ds_S) (Q : Option Value → ds_S → Prop) : Prop := ((¬ v2 = 0 → vp_in v1 10 ∧ Q (some (.int t0)) (ds_wi (ds_wi σ 6 v1.toNatClampNeg (vp_nar .boolean v3)) 0 10 (0 : Int32))) ∧ (v2 = 0 → vp_in v1 10 ∧ Q (some (.int t0)) (ds_wi (ds_wi σ 5 v1.toNatClampNeg (vp_nar .boolean v3)) 0 10 (0 : Int32))))
theorem x_X9_mark_53 (v1 : Int32) (v2 : Int32) (v3 : Int32) (t0 : Int32) (g4 : Option Value) (σ : ds_S) (Q : Option Value → ds_S → Prop) (h : w_X9_mark_53 v1 v2 v3 t0 σ Q) : ds_X mt_X9_mark Ym 53 [some (.ref 0), some (.int v1), some (.int v2), some (.int v3), g4] [.int t0] σ Q := by
  unfold w_X9_mark_53 at h
  refine ds_blk (ls2 := [some (.ref 0), some (.int v1), some (.int v2), some (.int v3), some (.int t0)]) (st2 := [.int v2]) (σ2 := σ) ok_X9_mark 30 2 53 56 [] rfl rfl rfl rfl trivial ?_
  refine ds_if_ne (show decode mt_X9_mark.2.1 56 = .ok (.ifCond .ne 13, 3) from ds_dec (i := (56, .ifCond .ne 13, 3, 0, 0, 0, .int 0)) ok_X9_mark 32 rfl) (t := 69) (by decide) (fun hc => ?_) (fun hc => ?_)
  · replace h := h.1 hc
    obtain ⟨o1, h⟩ := h
    refine ds_blk (ls2 := [some (.ref 0), some (.int v1), some (.int v2), some (.int v3), some (.int t0)]) (st2 := [.int t0]) (σ2 := (ds_wi (ds_wi σ 6 v1.toNatClampNeg (vp_nar .boolean v3)) 0 10 (0 : Int32))) ok_X9_mark 39 9 69 83 [ds_k Ym 0 9, ds_k Ym 6 12, vp_in v1 10, ds_k Ym 0 9, (0 : Int32) = 0 ∨ (0 : Int32) = 1] rfl rfl rfl rfl ⟨⟨by decide, rfl⟩, ⟨by decide, rfl⟩, o1, ⟨by decide, rfl⟩, (by decide), trivial⟩ ?_
    exact ds_iret (show decode mt_X9_mark.2.1 83 = .ok (.ireturn, 1) from ds_dec (i := (83, .ireturn, 1, 0, 0, 0, .int 0)) ok_X9_mark 48 rfl) rfl h
  · replace h := h.2 hc
    obtain ⟨o2, h⟩ := h
    refine ds_blk (ls2 := [some (.ref 0), some (.int v1), some (.int v2), some (.int v3), some (.int t0)]) (st2 := []) (σ2 := (ds_wi σ 5 v1.toNatClampNeg (vp_nar .boolean v3))) ok_X9_mark 33 5 59 66 [ds_k Ym 0 9, ds_k Ym 5 12, vp_in v1 10] rfl rfl rfl rfl ⟨⟨by decide, rfl⟩, ⟨by decide, rfl⟩, o2, trivial⟩ ?_
    refine ds_goto (show decode mt_X9_mark.2.1 66 = .ok (.goto 10, 3) from ds_dec (i := (66, .goto 10, 3, 0, 0, 0, .int 0)) ok_X9_mark 38 rfl) (t := 76) (by decide) ?_
    refine ds_blk (ls2 := [some (.ref 0), some (.int v1), some (.int v2), some (.int v3), some (.int t0)]) (st2 := [.int t0]) (σ2 := (ds_wi (ds_wi σ 5 v1.toNatClampNeg (vp_nar .boolean v3)) 0 10 (0 : Int32))) ok_X9_mark 44 4 76 83 [ds_k Ym 0 9, (0 : Int32) = 0 ∨ (0 : Int32) = 1] rfl rfl rfl rfl ⟨⟨by decide, rfl⟩, (by decide), trivial⟩ ?_
    exact ds_iret (show decode mt_X9_mark.2.1 83 = .ok (.ireturn, 1) from ds_dec (i := (83, .ireturn, 1, 0, 0, 0, .int 0)) ok_X9_mark 48 rfl) rfl h
def w_X9_mark (a1 : Int32) (a2 : Int32) (a3 : Int32) (σ : ds_S) (Q : Option Value → ds_S → Prop) : Prop := ((¬ (q_bx a1 (σ.1 0 7)) = 0 → ((¬ (q_in a2.toInt64 (0 : Int64) (1 : Int64)) = 0 → ((¬ a2 = 0 → vp_in a1 10 ∧ (((σ.1 6 a1.toNatClampNeg) = 0 → w_X9_mark_53 a1 a2 a3 (0 : Int32) σ Q) ∧ (¬ (σ.1 6 a1.toNatClampNeg) = 0 → w_X9_mark_53 a1 a2 a3 (1 : Int32) σ Q))) ∧ (a2 = 0 → vp_in a1 10 ∧ (((σ.1 5 a1.toNatClampNeg) = 0 → w_X9_mark_53 a1 a2 a3 (0 : Int32) σ Q) ∧ (¬ (σ.1 5 a1.toNatClampNeg) = 0 → w_X9_mark_53 a1 a2 a3 (1 : Int32) σ Q))))) ∧ ((q_in a2.toInt64 (0 : Int64) (1 : Int64)) = 0 → Q (some (.int (-2 : Int32))) σ))) ∧ ((q_bx a1 (σ.1 0 7)) = 0 → Q (some (.int (-1 : Int32))) σ))
theorem e_X9_mark (a1 : Int32) (a2 : Int32) (a3 : Int32) (σ : ds_S) (Q : Option Value → ds_S → Prop) (h : w_X9_mark a1 a2 a3 σ Q) : ds_E mt_X9_mark Ym [.ref 0, .int a1, .int a2, .int a3] σ Q := by
  refine ds_enter (by decide) (Nat.le_of_ble_eq_true rfl) ?_
  show ds_X mt_X9_mark Ym 0 [some (.ref 0), some (.int a1), some (.int a2), some (.int a3), none] [] σ Q
  unfold w_X9_mark at h
  refine ds_blk (ls2 := [some (.ref 0), some (.int a1), some (.int a2), some (.int a3), none]) (st2 := [.int a1, .ref 0]) (σ2 := σ) ok_X9_mark 0 2 0 2 [] rfl rfl rfl rfl trivial ?_
  refine ds_callV (z := mt_X9_isLine) (b := 0) (as := [.int a1]) (rest := []) (show decode mt_X9_mark.2.1 2 = .ok (.invokevirtual 96, 3) from ds_dec (i := (2, .invokevirtual 96, 3, 0, 0, 853, .int 0)) ok_X9_mark 2 rfl) (ds_E.mono (sp_X9_isLine a1 σ ) (fun r σ1 hr => ?_)) ⟨zw_X9_isLine.1, zw_X9_isLine.2.1, zw_X9_isLine.2.2, by decide, by decide⟩ (ds_wb_T (p := 853) (by decide +kernel)) zi_X9_isLine zs_X9_isLine (by decide) rfl ⟨_, rfl, rfl⟩ (Nat.le_of_ble_eq_true rfl)
  obtain ⟨x9, rfl, e8, e9⟩ := hr
  rw [e8, e9]
  show ds_X mt_X9_mark Ym 5 [some (.ref 0), some (.int a1), some (.int a2), some (.int a3), none] [.int (q_bx a1 (σ.1 0 7))] σ Q
  refine ds_if_ne (show decode mt_X9_mark.2.1 5 = .ok (.ifCond .ne 5, 3) from ds_dec (i := (5, .ifCond .ne 5, 3, 0, 0, 0, .int 0)) ok_X9_mark 3 rfl) (t := 10) (by decide) (fun hc => ?_) (fun hc => ?_)
  · replace h := h.1 hc
    refine ds_blk (ls2 := [some (.ref 0), some (.int a1), some (.int a2), some (.int a3), none]) (st2 := [.long (1 : Int64), .long (0 : Int64), .long a2.toInt64]) (σ2 := σ) ok_X9_mark 6 4 10 14 [] rfl rfl rfl rfl trivial ?_
    refine ds_callS (z := mt_X9_in) (as := [.long a2.toInt64, .long (0 : Int64), .long (1 : Int64)]) (rest := []) (show decode mt_X9_mark.2.1 14 = .ok (.invokestatic 73, 3) from ds_dec (i := (14, .invokestatic 73, 3, 0, 0, 836, .int 0)) ok_X9_mark 10 rfl) (ds_E.mono (sp_X9_in a2.toInt64 (0 : Int64) (1 : Int64) σ ) (fun r σ2 hr => ?_)) ⟨zw_X9_in.1, zw_X9_in.2.1, zw_X9_in.2.2, by decide, by decide⟩ (ds_wb_T (p := 836) (by decide +kernel)) zt_X9_in (Nat.le_of_ble_eq_true rfl)
    obtain ⟨x9, rfl, e8, e9⟩ := hr
    rw [e8, e9]
    show ds_X mt_X9_mark Ym 17 [some (.ref 0), some (.int a1), some (.int a2), some (.int a3), none] [.int (q_in a2.toInt64 (0 : Int64) (1 : Int64))] σ Q
    refine ds_if_ne (show decode mt_X9_mark.2.1 17 = .ok (.ifCond .ne 6, 3) from ds_dec (i := (17, .ifCond .ne 6, 3, 0, 0, 0, .int 0)) ok_X9_mark 11 rfl) (t := 23) (by decide) (fun hc => ?_) (fun hc => ?_)
    · replace h := h.1 hc
      refine ds_blk (ls2 := [some (.ref 0), some (.int a1), some (.int a2), some (.int a3), none]) (st2 := [.int a2]) (σ2 := σ) ok_X9_mark 14 1 23 24 [] rfl rfl rfl rfl trivial ?_
      refine ds_if_ne (show decode mt_X9_mark.2.1 24 = .ok (.ifCond .ne 15, 3) from ds_dec (i := (24, .ifCond .ne 15, 3, 0, 0, 0, .int 0)) ok_X9_mark 15 rfl) (t := 39) (by decide) (fun hc => ?_) (fun hc => ?_)
      · replace h := h.1 hc
        obtain ⟨o1, h⟩ := h
        refine ds_blk (ls2 := [some (.ref 0), some (.int a1), some (.int a2), some (.int a3), none]) (st2 := [.int (σ.1 6 a1.toNatClampNeg)]) (σ2 := σ) ok_X9_mark 22 4 39 45 [ds_k Ym 0 9, ds_k Ym 6 12, vp_in a1 10] rfl rfl rfl rfl ⟨⟨by decide, rfl⟩, ⟨by decide, rfl⟩, o1, trivial⟩ ?_
        refine ds_if_eq (show decode mt_X9_mark.2.1 45 = .ok (.ifCond .eq 7, 3) from ds_dec (i := (45, .ifCond .eq 7, 3, 0, 0, 0, .int 0)) ok_X9_mark 26 rfl) (t := 52) (by decide) (fun hc => ?_) (fun hc => ?_)
        · replace h := h.1 hc
          refine ds_blk (ls2 := [some (.ref 0), some (.int a1), some (.int a2), some (.int a3), none]) (st2 := [.int (0 : Int32)]) (σ2 := σ) ok_X9_mark 29 1 52 53 [] rfl rfl rfl rfl trivial ?_
          refine x_X9_mark_53 a1 a2 a3 (0 : Int32) _ σ Q h
        · replace h := h.2 hc
          refine ds_blk (ls2 := [some (.ref 0), some (.int a1), some (.int a2), some (.int a3), none]) (st2 := [.int (1 : Int32)]) (σ2 := σ) ok_X9_mark 27 1 48 49 [] rfl rfl rfl rfl trivial ?_
          refine ds_goto (show decode mt_X9_mark.2.1 49 = .ok (.goto 4, 3) from ds_dec (i := (49, .goto 4, 3, 0, 0, 0, .int 0)) ok_X9_mark 28 rfl) (t := 53) (by decide) ?_
          refine x_X9_mark_53 a1 a2 a3 (1 : Int32) _ σ Q h
      · replace h := h.2 hc
        obtain ⟨o2, h⟩ := h
        refine ds_blk (ls2 := [some (.ref 0), some (.int a1), some (.int a2), some (.int a3), none]) (st2 := [.int (σ.1 5 a1.toNatClampNeg)]) (σ2 := σ) ok_X9_mark 16 4 27 33 [ds_k Ym 0 9, ds_k Ym 5 12, vp_in a1 10] rfl rfl rfl rfl ⟨⟨by decide, rfl⟩, ⟨by decide, rfl⟩, o2, trivial⟩ ?_
        refine ds_if_eq (show decode mt_X9_mark.2.1 33 = .ok (.ifCond .eq 19, 3) from ds_dec (i := (33, .ifCond .eq 19, 3, 0, 0, 0, .int 0)) ok_X9_mark 20 rfl) (t := 52) (by decide) (fun hc => ?_) (fun hc => ?_)
        · replace h := h.1 hc
          refine ds_blk (ls2 := [some (.ref 0), some (.int a1), some (.int a2), some (.int a3), none]) (st2 := [.int (0 : Int32)]) (σ2 := σ) ok_X9_mark 29 1 52 53 [] rfl rfl rfl rfl trivial ?_
          refine x_X9_mark_53 a1 a2 a3 (0 : Int32) _ σ Q h
        · replace h := h.2 hc
          refine ds_goto (show decode mt_X9_mark.2.1 36 = .ok (.goto 12, 3) from ds_dec (i := (36, .goto 12, 3, 0, 0, 0, .int 0)) ok_X9_mark 21 rfl) (t := 48) (by decide) ?_
          refine ds_blk (ls2 := [some (.ref 0), some (.int a1), some (.int a2), some (.int a3), none]) (st2 := [.int (1 : Int32)]) (σ2 := σ) ok_X9_mark 27 1 48 49 [] rfl rfl rfl rfl trivial ?_
          refine ds_goto (show decode mt_X9_mark.2.1 49 = .ok (.goto 4, 3) from ds_dec (i := (49, .goto 4, 3, 0, 0, 0, .int 0)) ok_X9_mark 28 rfl) (t := 53) (by decide) ?_
          refine x_X9_mark_53 a1 a2 a3 (1 : Int32) _ σ Q h
    · replace h := h.2 hc
      refine ds_blk (ls2 := [some (.ref 0), some (.int a1), some (.int a2), some (.int a3), none]) (st2 := [.int (-2 : Int32)]) (σ2 := σ) ok_X9_mark 12 1 20 22 [] rfl rfl rfl rfl trivial ?_
      exact ds_iret (show decode mt_X9_mark.2.1 22 = .ok (.ireturn, 1) from ds_dec (i := (22, .ireturn, 1, 0, 0, 0, .int 0)) ok_X9_mark 13 rfl) rfl h
  · replace h := h.2 hc
    refine ds_blk (ls2 := [some (.ref 0), some (.int a1), some (.int a2), some (.int a3), none]) (st2 := [.int (-1 : Int32)]) (σ2 := σ) ok_X9_mark 4 1 8 9 [] rfl rfl rfl rfl trivial ?_
    exact ds_iret (show decode mt_X9_mark.2.1 9 = .ok (.ireturn, 1) from ds_dec (i := (9, .ireturn, 1, 0, 0, 0, .int 0)) ok_X9_mark 5 rfl) rfl h
def w_X9_load (a1 : Int32) (a2 : Int32) (a3 : Int32) (a4 : Int32) (σ : ds_S) (Q : Option Value → ds_S → Prop) : Prop := (((q_bx a1 3) = 0 → Q (some (.int (-1 : Int32))) σ) ∧ (¬ (q_bx a1 3) = 0 → (((q_bx a2 (σ.1 0 0)) = 0 → Q (some (.int (-1 : Int32))) σ) ∧ (¬ (q_bx a2 (σ.1 0 0)) = 0 → (((q_bx a3 (σ.1 0 0)) = 0 → Q (some (.int (-1 : Int32))) σ) ∧ (¬ (q_bx a3 (σ.1 0 0)) = 0 → ((¬ a2 = a3 → ((¬ (q_in a4.toInt64 (0 : Int64) (50 : Int64)) = 0 → vp_in (((36 : Int32) * a1) + ((6 : Int32) * a2) + a3) 108 ∧ vp_in ((((36 : Int32) * a1) + ((6 : Int32) * a2)) + a3) 108 ∧ Q (some (.int (σ.1 7 ((((36 : Int32) * a1) + ((6 : Int32) * a2) + a3).toNatClampNeg)))) (ds_wi (ds_wi σ 7 (((((36 : Int32) * a1) + ((6 : Int32) * a2)) + a3).toNatClampNeg) a4) 0 10 (0 : Int32))) ∧ ((q_in a4.toInt64 (0 : Int64) (50 : Int64)) = 0 → Q (some (.int (-2 : Int32))) σ))) ∧ (a2 = a3 → Q (some (.int (-1 : Int32))) σ))))))))
theorem e_X9_load (a1 : Int32) (a2 : Int32) (a3 : Int32) (a4 : Int32) (σ : ds_S) (Q : Option Value → ds_S → Prop) (h : w_X9_load a1 a2 a3 a4 σ Q) : ds_E mt_X9_load Ym [.ref 0, .int a1, .int a2, .int a3, .int a4] σ Q := by
  refine ds_enter (by decide) (Nat.le_of_ble_eq_true rfl) ?_
  show ds_X mt_X9_load Ym 0 [some (.ref 0), some (.int a1), some (.int a2), some (.int a3), some (.int a4), none] [] σ Q
  unfold w_X9_load at h
  refine ds_blk (ls2 := [some (.ref 0), some (.int a1), some (.int a2), some (.int a3), some (.int a4), none]) (st2 := [.int a1]) (σ2 := σ) ok_X9_load 0 1 0 1 [] rfl rfl rfl rfl trivial ?_
  refine ds_callS (z := mt_X9_isTable) (as := [.int a1]) (rest := []) (show decode mt_X9_load.2.1 1 = .ok (.invokestatic 99, 3) from ds_dec (i := (1, .invokestatic 99, 3, 0, 0, 869, .int 0)) ok_X9_load 1 rfl) (ds_E.mono (sp_X9_isTable a1 σ ) (fun r σ1 hr => ?_)) ⟨zw_X9_isTable.1, zw_X9_isTable.2.1, zw_X9_isTable.2.2, by decide, by decide⟩ (ds_wb_T (p := 869) (by decide +kernel)) zt_X9_isTable (Nat.le_of_ble_eq_true rfl)
  obtain ⟨x9, rfl, e8, e9⟩ := hr
  rw [e8, e9]
  show ds_X mt_X9_load Ym 4 [some (.ref 0), some (.int a1), some (.int a2), some (.int a3), some (.int a4), none] [.int (q_bx a1 3)] σ Q
  refine ds_if_eq (show decode mt_X9_load.2.1 4 = .ok (.ifCond .eq 24, 3) from ds_dec (i := (4, .ifCond .eq 24, 3, 0, 0, 0, .int 0)) ok_X9_load 2 rfl) (t := 28) (by decide) (fun hc => ?_) (fun hc => ?_)
  · replace h := h.1 hc
    refine ds_blk (ls2 := [some (.ref 0), some (.int a1), some (.int a2), some (.int a3), some (.int a4), none]) (st2 := [.int (-1 : Int32)]) (σ2 := σ) ok_X9_load 14 1 28 29 [] rfl rfl rfl rfl trivial ?_
    exact ds_iret (show decode mt_X9_load.2.1 29 = .ok (.ireturn, 1) from ds_dec (i := (29, .ireturn, 1, 0, 0, 0, .int 0)) ok_X9_load 15 rfl) rfl h
  · replace h := h.2 hc
    refine ds_blk (ls2 := [some (.ref 0), some (.int a1), some (.int a2), some (.int a3), some (.int a4), none]) (st2 := [.int a2, .ref 0]) (σ2 := σ) ok_X9_load 3 2 7 9 [] rfl rfl rfl rfl trivial ?_
    refine ds_callV (z := mt_X9_isBox) (b := 0) (as := [.int a2]) (rest := []) (show decode mt_X9_load.2.1 9 = .ok (.invokevirtual 88, 3) from ds_dec (i := (9, .invokevirtual 88, 3, 0, 0, 843, .int 0)) ok_X9_load 5 rfl) (ds_E.mono (sp_X9_isBox a2 σ ) (fun r σ2 hr => ?_)) ⟨zw_X9_isBox.1, zw_X9_isBox.2.1, zw_X9_isBox.2.2, by decide, by decide⟩ (ds_wb_T (p := 843) (by decide +kernel)) zi_X9_isBox zs_X9_isBox (by decide) rfl ⟨_, rfl, rfl⟩ (Nat.le_of_ble_eq_true rfl)
    obtain ⟨x9, rfl, e8, e9⟩ := hr
    rw [e8, e9]
    show ds_X mt_X9_load Ym 12 [some (.ref 0), some (.int a1), some (.int a2), some (.int a3), some (.int a4), none] [.int (q_bx a2 (σ.1 0 0))] σ Q
    refine ds_if_eq (show decode mt_X9_load.2.1 12 = .ok (.ifCond .eq 16, 3) from ds_dec (i := (12, .ifCond .eq 16, 3, 0, 0, 0, .int 0)) ok_X9_load 6 rfl) (t := 28) (by decide) (fun hc => ?_) (fun hc => ?_)
    · replace h := h.1 hc
      refine ds_blk (ls2 := [some (.ref 0), some (.int a1), some (.int a2), some (.int a3), some (.int a4), none]) (st2 := [.int (-1 : Int32)]) (σ2 := σ) ok_X9_load 14 1 28 29 [] rfl rfl rfl rfl trivial ?_
      exact ds_iret (show decode mt_X9_load.2.1 29 = .ok (.ireturn, 1) from ds_dec (i := (29, .ireturn, 1, 0, 0, 0, .int 0)) ok_X9_load 15 rfl) rfl h
    · replace h := h.2 hc
      refine ds_blk (ls2 := [some (.ref 0), some (.int a1), some (.int a2), some (.int a3), some (.int a4), none]) (st2 := [.int a3, .ref 0]) (σ2 := σ) ok_X9_load 7 2 15 17 [] rfl rfl rfl rfl trivial ?_
      refine ds_callV (z := mt_X9_isBox) (b := 0) (as := [.int a3]) (rest := []) (show decode mt_X9_load.2.1 17 = .ok (.invokevirtual 88, 3) from ds_dec (i := (17, .invokevirtual 88, 3, 0, 0, 843, .int 0)) ok_X9_load 9 rfl) (ds_E.mono (sp_X9_isBox a3 σ ) (fun r σ3 hr => ?_)) ⟨zw_X9_isBox.1, zw_X9_isBox.2.1, zw_X9_isBox.2.2, by decide, by decide⟩ (ds_wb_T (p := 843) (by decide +kernel)) zi_X9_isBox zs_X9_isBox (by decide) rfl ⟨_, rfl, rfl⟩ (Nat.le_of_ble_eq_true rfl)
      obtain ⟨x9, rfl, e8, e9⟩ := hr
      rw [e8, e9]
      show ds_X mt_X9_load Ym 20 [some (.ref 0), some (.int a1), some (.int a2), some (.int a3), some (.int a4), none] [.int (q_bx a3 (σ.1 0 0))] σ Q
      refine ds_if_eq (show decode mt_X9_load.2.1 20 = .ok (.ifCond .eq 8, 3) from ds_dec (i := (20, .ifCond .eq 8, 3, 0, 0, 0, .int 0)) ok_X9_load 10 rfl) (t := 28) (by decide) (fun hc => ?_) (fun hc => ?_)
      · replace h := h.1 hc
        refine ds_blk (ls2 := [some (.ref 0), some (.int a1), some (.int a2), some (.int a3), some (.int a4), none]) (st2 := [.int (-1 : Int32)]) (σ2 := σ) ok_X9_load 14 1 28 29 [] rfl rfl rfl rfl trivial ?_
        exact ds_iret (show decode mt_X9_load.2.1 29 = .ok (.ireturn, 1) from ds_dec (i := (29, .ireturn, 1, 0, 0, 0, .int 0)) ok_X9_load 15 rfl) rfl h
      · replace h := h.2 hc
        refine ds_blk (ls2 := [some (.ref 0), some (.int a1), some (.int a2), some (.int a3), some (.int a4), none]) (st2 := [.int a3, .int a2]) (σ2 := σ) ok_X9_load 11 2 23 25 [] rfl rfl rfl rfl trivial ?_
        refine ds_ic_ne (show decode mt_X9_load.2.1 25 = .ok (.if_icmp .ne 5, 3) from ds_dec (i := (25, .if_icmp .ne 5, 3, 0, 0, 0, .int 0)) ok_X9_load 13 rfl) (t := 30) (by decide) (fun hc => ?_) (fun hc => ?_)
        · replace h := h.1 hc
          refine ds_blk (ls2 := [some (.ref 0), some (.int a1), some (.int a2), some (.int a3), some (.int a4), none]) (st2 := [.long (50 : Int64), .long (0 : Int64), .long a4.toInt64]) (σ2 := σ) ok_X9_load 16 4 30 37 [] rfl rfl rfl rfl trivial ?_
          refine ds_callS (z := mt_X9_in) (as := [.long a4.toInt64, .long (0 : Int64), .long (50 : Int64)]) (rest := []) (show decode mt_X9_load.2.1 37 = .ok (.invokestatic 73, 3) from ds_dec (i := (37, .invokestatic 73, 3, 0, 0, 836, .int 0)) ok_X9_load 20 rfl) (ds_E.mono (sp_X9_in a4.toInt64 (0 : Int64) (50 : Int64) σ ) (fun r σ4 hr => ?_)) ⟨zw_X9_in.1, zw_X9_in.2.1, zw_X9_in.2.2, by decide, by decide⟩ (ds_wb_T (p := 836) (by decide +kernel)) zt_X9_in (Nat.le_of_ble_eq_true rfl)
          obtain ⟨x9, rfl, e8, e9⟩ := hr
          rw [e8, e9]
          show ds_X mt_X9_load Ym 40 [some (.ref 0), some (.int a1), some (.int a2), some (.int a3), some (.int a4), none] [.int (q_in a4.toInt64 (0 : Int64) (50 : Int64))] σ Q
          refine ds_if_ne (show decode mt_X9_load.2.1 40 = .ok (.ifCond .ne 6, 3) from ds_dec (i := (40, .ifCond .ne 6, 3, 0, 0, 0, .int 0)) ok_X9_load 21 rfl) (t := 46) (by decide) (fun hc => ?_) (fun hc => ?_)
          · replace h := h.1 hc
            refine ds_blk (ls2 := [some (.ref 0), some (.int a1), some (.int a2), some (.int a3), some (.int a4), none]) (st2 := [.int a3, .int a2, .int a1, .ref 0]) (σ2 := σ) ok_X9_load 24 4 46 50 [] rfl rfl rfl rfl trivial ?_
            obtain ⟨o1, h⟩ := h
            refine ds_callV (z := mt_X9_loadOf) (b := 0) (as := [.int a1, .int a2, .int a3]) (rest := []) (show decode mt_X9_load.2.1 50 = .ok (.invokevirtual 104, 3) from ds_dec (i := (50, .invokevirtual 104, 3, 0, 0, 873, .int 0)) ok_X9_load 28 rfl) (ds_E.mono (sp_X9_loadOf a1 a2 a3 σ o1) (fun r σ5 hr => ?_)) ⟨zw_X9_loadOf.1, zw_X9_loadOf.2.1, zw_X9_loadOf.2.2, by decide, by decide⟩ (ds_wb_T (p := 873) (by decide +kernel)) zi_X9_loadOf zs_X9_loadOf (by decide) rfl ⟨_, rfl, rfl⟩ (Nat.le_of_ble_eq_true rfl)
            obtain ⟨x9, rfl, e8, e9⟩ := hr
            rw [e8, e9]
            show ds_X mt_X9_load Ym 53 [some (.ref 0), some (.int a1), some (.int a2), some (.int a3), some (.int a4), none] [.int (σ.1 7 ((((36 : Int32) * a1) + ((6 : Int32) * a2) + a3).toNatClampNeg))] σ Q
            obtain ⟨o2, h⟩ := h
            refine ds_blk (ls2 := [some (.ref 0), some (.int a1), some (.int a2), some (.int a3), some (.int a4), some (.int (σ.1 7 ((((36 : Int32) * a1) + ((6 : Int32) * a2) + a3).toNatClampNeg)))]) (st2 := [.int (σ.1 7 ((((36 : Int32) * a1) + ((6 : Int32) * a2) + a3).toNatClampNeg))]) (σ2 := (ds_wi (ds_wi σ 7 (((((36 : Int32) * a1) + ((6 : Int32) * a2)) + a3).toNatClampNeg) a4) 0 10 (0 : Int32))) ok_X9_load 29 18 53 80 [ds_k Ym 0 9, ds_k Ym 7 10, vp_in ((((36 : Int32) * a1) + ((6 : Int32) * a2)) + a3) 108, ds_k Ym 0 9, (0 : Int32) = 0 ∨ (0 : Int32) = 1] rfl rfl rfl rfl ⟨⟨by decide, rfl⟩, ⟨by decide, rfl⟩, o2, ⟨by decide, rfl⟩, (by decide), trivial⟩ ?_
            exact ds_iret (show decode mt_X9_load.2.1 80 = .ok (.ireturn, 1) from ds_dec (i := (80, .ireturn, 1, 0, 0, 0, .int 0)) ok_X9_load 47 rfl) rfl h
          · replace h := h.2 hc
            refine ds_blk (ls2 := [some (.ref 0), some (.int a1), some (.int a2), some (.int a3), some (.int a4), none]) (st2 := [.int (-2 : Int32)]) (σ2 := σ) ok_X9_load 22 1 43 45 [] rfl rfl rfl rfl trivial ?_
            exact ds_iret (show decode mt_X9_load.2.1 45 = .ok (.ireturn, 1) from ds_dec (i := (45, .ireturn, 1, 0, 0, 0, .int 0)) ok_X9_load 23 rfl) rfl h
        · replace h := h.2 hc
          refine ds_blk (ls2 := [some (.ref 0), some (.int a1), some (.int a2), some (.int a3), some (.int a4), none]) (st2 := [.int (-1 : Int32)]) (σ2 := σ) ok_X9_load 14 1 28 29 [] rfl rfl rfl rfl trivial ?_
          exact ds_iret (show decode mt_X9_load.2.1 29 = .ok (.ireturn, 1) from ds_dec (i := (29, .ireturn, 1, 0, 0, 0, .int 0)) ok_X9_load 15 rfl) rfl h
def w_X9_findFar_2 : Nat → (v1 : Int32) → (v2 : Int32) → (σ : ds_S) → (Q : Option Value → ds_S → Prop) → (K31 : ds_S → Prop) → Prop
  | 0, _, _, _, _, _ => False
  | f + 1, v1, v2, σ, Q, K31 => (((6 : Int32) ≤ v2 → K31 σ) ∧ (¬ (6 : Int32) ≤ v2 → ((¬ v2 = v1 → vp_in v2 6 ∧ w_X9_findFar_2 f v1 (v2 + (1 : Int32)) (ds_wi σ 9 v2.toNatClampNeg (1000000 : Int32)) Q K31) ∧ (v2 = v1 → vp_in v2 6 ∧ w_X9_findFar_2 f v1 (v2 + (1 : Int32)) (ds_wi σ 9 v2.toNatClampNeg (0 : Int32)) Q K31))))
theorem x_X9_findFar_2 : ∀ (f : Nat) (v1 : Int32) (v2 : Int32) (g3 : Option Value) (g4 : Option Value) (g5 : Option Value) (σ : ds_S) (Q : Option Value → ds_S → Prop) (K31 : ds_S → Prop) (hK31 : ∀ (g1 : Option Value) (g2 : Option Value) (g3 : Option Value) (g4 : Option Value) (g5 : Option Value) (σ2 : ds_S), K31 σ2 → ds_X mt_X9_findFar Ym 31 [some (.ref 0), g1, g2, g3, g4, g5] [] σ2 Q), w_X9_findFar_2 f v1 v2 σ Q K31 → ds_X mt_X9_findFar Ym 2 [some (.ref 0), some (.int v1), some (.int v2), g3, g4, g5] [] σ Q := by
  intro f
  induction f with
  | zero => intro v1 v2 g3 g4 g5 σ Q K31 hK31 h; exact False.elim h
  | succ f ih =>
    intro v1 v2 g3 g4 g5 σ Q K31 hK31 h
    rw [w_X9_findFar_2] at h
    refine ds_blk (ls2 := [some (.ref 0), some (.int v1), some (.int v2), g3, g4, g5]) (st2 := [.int (6 : Int32), .int v2]) (σ2 := σ) ok_X9_findFar 2 2 2 5 [] rfl rfl rfl rfl trivial ?_
    refine ds_ic_ge (show decode mt_X9_findFar.2.1 5 = .ok (.if_icmp .ge 26, 3) from ds_dec (i := (5, .if_icmp .ge 26, 3, 0, 0, 0, .int 0)) ok_X9_findFar 4 rfl) (t := 31) (by decide) (fun hc => ?_) (fun hc => ?_)
    · replace h := h.1 hc
      exact hK31  _ _ _ _ _ σ h
    · replace h := h.2 hc
      refine ds_blk (ls2 := [some (.ref 0), some (.int v1), some (.int v2), g3, g4, g5]) (st2 := [.int v1, .int v2, .int v2, .ref 9]) (σ2 := σ) ok_X9_findFar 5 5 8 15 [ds_k Ym 0 9] rfl rfl rfl rfl ⟨⟨by decide, rfl⟩, trivial⟩ ?_
      refine ds_ic_ne (show decode mt_X9_findFar.2.1 15 = .ok (.if_icmp .ne 7, 3) from ds_dec (i := (15, .if_icmp .ne 7, 3, 0, 0, 0, .int 0)) ok_X9_findFar 10 rfl) (t := 22) (by decide) (fun hc => ?_) (fun hc => ?_)
      · replace h := h.1 hc
        obtain ⟨o1, h⟩ := h
        refine ds_blk (ls2 := [some (.ref 0), some (.int v1), some (.int (v2 + (1 : Int32))), g3, g4, g5]) (st2 := []) (σ2 := (ds_wi σ 9 v2.toNatClampNeg (1000000 : Int32))) ok_X9_findFar 13 3 22 28 [ds_k Ym 9 10, vp_in v2 6] rfl rfl rfl rfl ⟨⟨by decide, rfl⟩, o1, trivial⟩ ?_
        refine ds_goto (show decode mt_X9_findFar.2.1 28 = .ok (.goto (-26), 3) from ds_dec (i := (28, .goto (-26), 3, 0, 0, 0, .int 0)) ok_X9_findFar 16 rfl) (t := 2) (by decide) ?_
        exact ih v1 (v2 + (1 : Int32)) _ _ _ (ds_wi σ 9 v2.toNatClampNeg (1000000 : Int32)) Q K31 hK31 h
      · replace h := h.2 hc
        refine ds_blk (ls2 := [some (.ref 0), some (.int v1), some (.int v2), g3, g4, g5]) (st2 := [.int (0 : Int32), .int v2, .ref 9]) (σ2 := σ) ok_X9_findFar 11 1 18 19 [] rfl rfl rfl rfl trivial ?_
        refine ds_goto (show decode mt_X9_findFar.2.1 19 = .ok (.goto 5, 3) from ds_dec (i := (19, .goto 5, 3, 0, 0, 0, .int 0)) ok_X9_findFar 12 rfl) (t := 24) (by decide) ?_
        obtain ⟨o2, h⟩ := h
        refine ds_blk (ls2 := [some (.ref 0), some (.int v1), some (.int (v2 + (1 : Int32))), g3, g4, g5]) (st2 := []) (σ2 := (ds_wi σ 9 v2.toNatClampNeg (0 : Int32))) ok_X9_findFar 14 2 24 28 [ds_k Ym 9 10, vp_in v2 6] rfl rfl rfl rfl ⟨⟨by decide, rfl⟩, o2, trivial⟩ ?_
        refine ds_goto (show decode mt_X9_findFar.2.1 28 = .ok (.goto (-26), 3) from ds_dec (i := (28, .goto (-26), 3, 0, 0, 0, .int 0)) ok_X9_findFar 16 rfl) (t := 2) (by decide) ?_
        exact ih v1 (v2 + (1 : Int32)) _ _ _ (ds_wi σ 9 v2.toNatClampNeg (0 : Int32)) Q K31 hK31 h
def w_X9_findFar_129 (v2 : Int32) (v3 : Int32) (v4 : Int32) (v5 : Int32) (t0 : Int32) (t1 : Int32) (σ : ds_S) (Q : Option Value → ds_S → Prop) (K43 : Int32 → Int32 → ds_S → Prop) : Prop := vp_in t1 6 ∧ vp_in v4 6 ∧ vp_in v3 10 ∧ vp_in v5 6 ∧ ((((ds_wi σ 9 t1.toNatClampNeg t0).1 9 v5.toNatClampNeg) ≤ (((ds_wi σ 9 t1.toNatClampNeg t0).1 9 v4.toNatClampNeg) + (σ.1 4 v3.toNatClampNeg)) → vp_in v5 6 ∧ vp_in v5 6 ∧ K43 v2 (v3 + (1 : Int32)) (ds_wi (ds_wi σ 9 t1.toNatClampNeg t0) 9 v5.toNatClampNeg ((ds_wi σ 9 t1.toNatClampNeg t0).1 9 v5.toNatClampNeg))) ∧ (¬ ((ds_wi σ 9 t1.toNatClampNeg t0).1 9 v5.toNatClampNeg) ≤ (((ds_wi σ 9 t1.toNatClampNeg t0).1 9 v4.toNatClampNeg) + (σ.1 4 v3.toNatClampNeg)) → vp_in v4 6 ∧ vp_in v3 10 ∧ vp_in v5 6 ∧ K43 v2 (v3 + (1 : Int32)) (ds_wi (ds_wi σ 9 t1.toNatClampNeg t0) 9 v5.toNatClampNeg (((ds_wi σ 9 t1.toNatClampNeg t0).1 9 v4.toNatClampNeg) + (σ.1 4 v3.toNatClampNeg)))))
theorem x_X9_findFar_129 (v2 : Int32) (v3 : Int32) (v4 : Int32) (v5 : Int32) (t0 : Int32) (t1 : Int32) (g1 : Option Value) (σ : ds_S) (Q : Option Value → ds_S → Prop) (K43 : Int32 → Int32 → ds_S → Prop) (hK43 : ∀ (v2 : Int32) (v3 : Int32) (g1 : Option Value) (g4 : Option Value) (g5 : Option Value) (σ2 : ds_S), K43 v2 v3 σ2 → ds_X mt_X9_findFar Ym 43 [some (.ref 0), g1, some (.int v2), some (.int v3), g4, g5] [] σ2 Q) (h : w_X9_findFar_129 v2 v3 v4 v5 t0 t1 σ Q K43) : ds_X mt_X9_findFar Ym 129 [some (.ref 0), g1, some (.int v2), some (.int v3), some (.int v4), some (.int v5)] [.int t0, .int t1, .ref 9] σ Q := by
  unfold w_X9_findFar_129 at h
  obtain ⟨o1, o2, o3, o4, h⟩ := h
  refine ds_blk (ls2 := [some (.ref 0), g1, some (.int v2), some (.int v3), some (.int v4), some (.int v5)]) (st2 := [.int ((ds_wi σ 9 t1.toNatClampNeg t0).1 9 v5.toNatClampNeg), .int (((ds_wi σ 9 t1.toNatClampNeg t0).1 9 v4.toNatClampNeg) + (σ.1 4 v3.toNatClampNeg)), .int v5, .ref 9]) (σ2 := (ds_wi σ 9 t1.toNatClampNeg t0)) ok_X9_findFar 74 17 129 157 [ds_k Ym 9 10, vp_in t1 6, ds_k Ym 0 9, ds_k Ym 0 9, ds_k Ym 9 10, vp_in v4 6, ds_k Ym 0 9, ds_k Ym 4 10, vp_in v3 10, ds_k Ym 0 9, ds_k Ym 9 10, vp_in v5 6] rfl rfl rfl rfl ⟨⟨by decide, rfl⟩, o1, ⟨by decide, rfl⟩, ⟨by decide, rfl⟩, ⟨by decide, rfl⟩, o2, ⟨by decide, rfl⟩, ⟨by decide, rfl⟩, o3, ⟨by decide, rfl⟩, ⟨by decide, rfl⟩, o4, trivial⟩ ?_
  refine ds_ic_ge (show decode mt_X9_findFar.2.1 157 = .ok (.if_icmp .ge 20, 3) from ds_dec (i := (157, .if_icmp .ge 20, 3, 0, 0, 0, .int 0)) ok_X9_findFar 91 rfl) (t := 177) (by decide) (fun hc => ?_) (fun hc => ?_)
  · replace h := h.1 hc
    obtain ⟨o5, o6, h⟩ := h
    refine ds_blk (ls2 := [some (.ref 0), g1, some (.int v2), some (.int (v3 + (1 : Int32))), some (.int v4), some (.int v5)]) (st2 := []) (σ2 := (ds_wi (ds_wi σ 9 t1.toNatClampNeg t0) 9 v5.toNatClampNeg ((ds_wi σ 9 t1.toNatClampNeg t0).1 9 v5.toNatClampNeg))) ok_X9_findFar 102 6 177 188 [ds_k Ym 0 9, ds_k Ym 9 10, vp_in v5 6, ds_k Ym 9 10, vp_in v5 6] rfl rfl rfl rfl ⟨⟨by decide, rfl⟩, ⟨by decide, rfl⟩, o5, ⟨by decide, rfl⟩, o6, trivial⟩ ?_
    refine ds_goto (show decode mt_X9_findFar.2.1 188 = .ok (.goto (-145), 3) from ds_dec (i := (188, .goto (-145), 3, 0, 0, 0, .int 0)) ok_X9_findFar 108 rfl) (t := 43) (by decide) ?_
    exact hK43 v2 (v3 + (1 : Int32)) _ _ _ (ds_wi (ds_wi σ 9 t1.toNatClampNeg t0) 9 v5.toNatClampNeg ((ds_wi σ 9 t1.toNatClampNeg t0).1 9 v5.toNatClampNeg)) h
  · replace h := h.2 hc
    obtain ⟨o7, o8, h⟩ := h
    refine ds_blk (ls2 := [some (.ref 0), g1, some (.int v2), some (.int v3), some (.int v4), some (.int v5)]) (st2 := [.int (((ds_wi σ 9 t1.toNatClampNeg t0).1 9 v4.toNatClampNeg) + (σ.1 4 v3.toNatClampNeg)), .int v5, .ref 9]) (σ2 := (ds_wi σ 9 t1.toNatClampNeg t0)) ok_X9_findFar 92 9 160 174 [ds_k Ym 0 9, ds_k Ym 9 10, vp_in v4 6, ds_k Ym 0 9, ds_k Ym 4 10, vp_in v3 10] rfl rfl rfl rfl ⟨⟨by decide, rfl⟩, ⟨by decide, rfl⟩, o7, ⟨by decide, rfl⟩, ⟨by decide, rfl⟩, o8, trivial⟩ ?_
    refine ds_goto (show decode mt_X9_findFar.2.1 174 = .ok (.goto 10, 3) from ds_dec (i := (174, .goto 10, 3, 0, 0, 0, .int 0)) ok_X9_findFar 101 rfl) (t := 184) (by decide) ?_
    obtain ⟨o9, h⟩ := h
    refine ds_blk (ls2 := [some (.ref 0), g1, some (.int v2), some (.int (v3 + (1 : Int32))), some (.int v4), some (.int v5)]) (st2 := []) (σ2 := (ds_wi (ds_wi σ 9 t1.toNatClampNeg t0) 9 v5.toNatClampNeg (((ds_wi σ 9 t1.toNatClampNeg t0).1 9 v4.toNatClampNeg) + (σ.1 4 v3.toNatClampNeg)))) ok_X9_findFar 106 2 184 188 [ds_k Ym 9 10, vp_in v5 6] rfl rfl rfl rfl ⟨⟨by decide, rfl⟩, o9, trivial⟩ ?_
    refine ds_goto (show decode mt_X9_findFar.2.1 188 = .ok (.goto (-145), 3) from ds_dec (i := (188, .goto (-145), 3, 0, 0, 0, .int 0)) ok_X9_findFar 108 rfl) (t := 43) (by decide) ?_
    exact hK43 v2 (v3 + (1 : Int32)) _ _ _ (ds_wi (ds_wi σ 9 t1.toNatClampNeg t0) 9 v5.toNatClampNeg (((ds_wi σ 9 t1.toNatClampNeg t0).1 9 v4.toNatClampNeg) + (σ.1 4 v3.toNatClampNeg))) h
def w_X9_findFar_43 : Nat → (v2 : Int32) → (v3 : Int32) → (σ : ds_S) → (Q : Option Value → ds_S → Prop) → (K191 : Int32 → ds_S → Prop) → Prop
  | 0, _, _, _, _, _ => False
  | f + 1, v2, v3, σ, Q, K191 => (((σ.1 0 7) ≤ v3 → K191 v2 σ) ∧ (¬ (σ.1 0 7) ≤ v3 → vp_in v3 10 ∧ vp_in v3 10 ∧ vp_in v3 10 ∧ (((q_th (σ.1 6 v3.toNatClampNeg) v3 (σ.1 0 13)) = 0 → w_X9_findFar_43 f v2 (v3 + (1 : Int32)) σ Q K191) ∧ (¬ (q_th (σ.1 6 v3.toNatClampNeg) v3 (σ.1 0 13)) = 0 → vp_in (σ.1 2 v3.toNatClampNeg) 6 ∧ vp_in v3 10 ∧ vp_in (σ.1 1 v3.toNatClampNeg) 6 ∧ (((σ.1 9 ((σ.1 1 v3.toNatClampNeg).toNatClampNeg)) ≤ ((σ.1 9 ((σ.1 2 v3.toNatClampNeg).toNatClampNeg)) + (σ.1 4 v3.toNatClampNeg)) → vp_in (σ.1 1 v3.toNatClampNeg) 6 ∧ w_X9_findFar_129 v2 v3 (σ.1 1 v3.toNatClampNeg) (σ.1 2 v3.toNatClampNeg) (σ.1 9 ((σ.1 1 v3.toNatClampNeg).toNatClampNeg)) (σ.1 1 v3.toNatClampNeg) σ Q (fun v2_2 v3_2 σ2 => w_X9_findFar_43 f v2_2 v3_2 σ2 Q K191)) ∧ (¬ (σ.1 9 ((σ.1 1 v3.toNatClampNeg).toNatClampNeg)) ≤ ((σ.1 9 ((σ.1 2 v3.toNatClampNeg).toNatClampNeg)) + (σ.1 4 v3.toNatClampNeg)) → vp_in (σ.1 2 v3.toNatClampNeg) 6 ∧ vp_in v3 10 ∧ w_X9_findFar_129 v2 v3 (σ.1 1 v3.toNatClampNeg) (σ.1 2 v3.toNatClampNeg) ((σ.1 9 ((σ.1 2 v3.toNatClampNeg).toNatClampNeg)) + (σ.1 4 v3.toNatClampNeg)) (σ.1 1 v3.toNatClampNeg) σ Q (fun v2_3 v3_3 σ3 => w_X9_findFar_43 f v2_3 v3_3 σ3 Q K191)))))))
theorem x_X9_findFar_43 : ∀ (f : Nat) (v2 : Int32) (v3 : Int32) (g1 : Option Value) (g4 : Option Value) (g5 : Option Value) (σ : ds_S) (Q : Option Value → ds_S → Prop) (K191 : Int32 → ds_S → Prop) (hK191 : ∀ (v2 : Int32) (g1 : Option Value) (g3 : Option Value) (g4 : Option Value) (g5 : Option Value) (σ2 : ds_S), K191 v2 σ2 → ds_X mt_X9_findFar Ym 191 [some (.ref 0), g1, some (.int v2), g3, g4, g5] [] σ2 Q), w_X9_findFar_43 f v2 v3 σ Q K191 → ds_X mt_X9_findFar Ym 43 [some (.ref 0), g1, some (.int v2), some (.int v3), g4, g5] [] σ Q := by
  intro f
  induction f with
  | zero => intro v2 v3 g1 g4 g5 σ Q K191 hK191 h; exact False.elim h
  | succ f ih =>
    intro v2 v3 g1 g4 g5 σ Q K191 hK191 h
    rw [w_X9_findFar_43] at h
    refine ds_blk (ls2 := [some (.ref 0), g1, some (.int v2), some (.int v3), g4, g5]) (st2 := [.int (σ.1 0 7), .int v3]) (σ2 := σ) ok_X9_findFar 25 3 43 48 [ds_k Ym 0 9] rfl rfl rfl rfl ⟨⟨by decide, rfl⟩, trivial⟩ ?_
    refine ds_ic_ge (show decode mt_X9_findFar.2.1 48 = .ok (.if_icmp .ge 143, 3) from ds_dec (i := (48, .if_icmp .ge 143, 3, 0, 0, 0, .int 0)) ok_X9_findFar 28 rfl) (t := 191) (by decide) (fun hc => ?_) (fun hc => ?_)
    · replace h := h.1 hc
      exact hK191 v2 _ _ _ _ σ h
    · replace h := h.2 hc
      obtain ⟨o1, o2, h⟩ := h
      refine ds_blk (ls2 := [some (.ref 0), g1, some (.int v2), some (.int v3), some (.int (σ.1 1 v3.toNatClampNeg)), some (.int (σ.1 2 v3.toNatClampNeg))]) (st2 := [.int v3, .ref 0]) (σ2 := σ) ok_X9_findFar 29 12 51 69 [ds_k Ym 0 9, ds_k Ym 1 10, vp_in v3 10, ds_k Ym 0 9, ds_k Ym 2 10, vp_in v3 10] rfl rfl rfl rfl ⟨⟨by decide, rfl⟩, ⟨by decide, rfl⟩, o1, ⟨by decide, rfl⟩, ⟨by decide, rfl⟩, o2, trivial⟩ ?_
      obtain ⟨o3, h⟩ := h
      refine ds_callV (z := mt_X9_isThere) (b := 0) (as := [.int v3]) (rest := []) (show decode mt_X9_findFar.2.1 69 = .ok (.invokevirtual 109, 3) from ds_dec (i := (69, .invokevirtual 109, 3, 0, 0, 886, .int 0)) ok_X9_findFar 41 rfl) (ds_E.mono (sp_X9_isThere v3 σ o3) (fun r σ1 hr => ?_)) ⟨zw_X9_isThere.1, zw_X9_isThere.2.1, zw_X9_isThere.2.2, by decide, by decide⟩ (ds_wb_T (p := 886) (by decide +kernel)) zi_X9_isThere zs_X9_isThere (by decide) rfl ⟨_, rfl, rfl⟩ (Nat.le_of_ble_eq_true rfl)
      obtain ⟨x9, rfl, e8, e9⟩ := hr
      rw [e8, e9]
      show ds_X mt_X9_findFar Ym 72 [some (.ref 0), g1, some (.int v2), some (.int v3), some (.int (σ.1 1 v3.toNatClampNeg)), some (.int (σ.1 2 v3.toNatClampNeg))] [.int (q_th (σ.1 6 v3.toNatClampNeg) v3 (σ.1 0 13))] σ Q
      refine ds_if_eq (show decode mt_X9_findFar.2.1 72 = .ok (.ifCond .eq 113, 3) from ds_dec (i := (72, .ifCond .eq 113, 3, 0, 0, 0, .int 0)) ok_X9_findFar 42 rfl) (t := 185) (by decide) (fun hc => ?_) (fun hc => ?_)
      · replace h := h.1 hc
        refine ds_blk (ls2 := [some (.ref 0), g1, some (.int v2), some (.int (v3 + (1 : Int32))), some (.int (σ.1 1 v3.toNatClampNeg)), some (.int (σ.1 2 v3.toNatClampNeg))]) (st2 := []) (σ2 := σ) ok_X9_findFar 107 1 185 188 [] rfl rfl rfl rfl trivial ?_
        refine ds_goto (show decode mt_X9_findFar.2.1 188 = .ok (.goto (-145), 3) from ds_dec (i := (188, .goto (-145), 3, 0, 0, 0, .int 0)) ok_X9_findFar 108 rfl) (t := 43) (by decide) ?_
        exact ih v2 (v3 + (1 : Int32)) _ _ _ σ Q K191 hK191 h
      · replace h := h.2 hc
        obtain ⟨o4, o5, o6, h⟩ := h
        refine ds_blk (ls2 := [some (.ref 0), g1, some (.int v2), some (.int v3), some (.int (σ.1 1 v3.toNatClampNeg)), some (.int (σ.1 2 v3.toNatClampNeg))]) (st2 := [.int (σ.1 9 ((σ.1 1 v3.toNatClampNeg).toNatClampNeg)), .int ((σ.1 9 ((σ.1 2 v3.toNatClampNeg).toNatClampNeg)) + (σ.1 4 v3.toNatClampNeg)), .int (σ.1 1 v3.toNatClampNeg), .ref 9]) (σ2 := σ) ok_X9_findFar 43 16 75 102 [ds_k Ym 0 9, ds_k Ym 0 9, ds_k Ym 9 10, vp_in (σ.1 2 v3.toNatClampNeg) 6, ds_k Ym 0 9, ds_k Ym 4 10, vp_in v3 10, ds_k Ym 0 9, ds_k Ym 9 10, vp_in (σ.1 1 v3.toNatClampNeg) 6] rfl rfl rfl rfl ⟨⟨by decide, rfl⟩, ⟨by decide, rfl⟩, ⟨by decide, rfl⟩, o4, ⟨by decide, rfl⟩, ⟨by decide, rfl⟩, o5, ⟨by decide, rfl⟩, ⟨by decide, rfl⟩, o6, trivial⟩ ?_
        refine ds_ic_ge (show decode mt_X9_findFar.2.1 102 = .ok (.if_icmp .ge 20, 3) from ds_dec (i := (102, .if_icmp .ge 20, 3, 0, 0, 0, .int 0)) ok_X9_findFar 59 rfl) (t := 122) (by decide) (fun hc => ?_) (fun hc => ?_)
        · replace h := h.1 hc
          obtain ⟨o7, h⟩ := h
          refine ds_blk (ls2 := [some (.ref 0), g1, some (.int v2), some (.int v3), some (.int (σ.1 1 v3.toNatClampNeg)), some (.int (σ.1 2 v3.toNatClampNeg))]) (st2 := [.int (σ.1 9 ((σ.1 1 v3.toNatClampNeg).toNatClampNeg)), .int (σ.1 1 v3.toNatClampNeg), .ref 9]) (σ2 := σ) ok_X9_findFar 70 4 122 129 [ds_k Ym 0 9, ds_k Ym 9 10, vp_in (σ.1 1 v3.toNatClampNeg) 6] rfl rfl rfl rfl ⟨⟨by decide, rfl⟩, ⟨by decide, rfl⟩, o7, trivial⟩ ?_
          refine x_X9_findFar_129 v2 v3 (σ.1 1 v3.toNatClampNeg) (σ.1 2 v3.toNatClampNeg) (σ.1 9 ((σ.1 1 v3.toNatClampNeg).toNatClampNeg)) (σ.1 1 v3.toNatClampNeg) _ σ Q _ ?_ h
          · intro v2_2 v3_2 g1_2 g4_2 g5_2 σ2 h
            exact ih v2_2 v3_2 _ _ _ σ2 Q K191 hK191 h
        · replace h := h.2 hc
          obtain ⟨o8, o9, h⟩ := h
          refine ds_blk (ls2 := [some (.ref 0), g1, some (.int v2), some (.int v3), some (.int (σ.1 1 v3.toNatClampNeg)), some (.int (σ.1 2 v3.toNatClampNeg))]) (st2 := [.int ((σ.1 9 ((σ.1 2 v3.toNatClampNeg).toNatClampNeg)) + (σ.1 4 v3.toNatClampNeg)), .int (σ.1 1 v3.toNatClampNeg), .ref 9]) (σ2 := σ) ok_X9_findFar 60 9 105 119 [ds_k Ym 0 9, ds_k Ym 9 10, vp_in (σ.1 2 v3.toNatClampNeg) 6, ds_k Ym 0 9, ds_k Ym 4 10, vp_in v3 10] rfl rfl rfl rfl ⟨⟨by decide, rfl⟩, ⟨by decide, rfl⟩, o8, ⟨by decide, rfl⟩, ⟨by decide, rfl⟩, o9, trivial⟩ ?_
          refine ds_goto (show decode mt_X9_findFar.2.1 119 = .ok (.goto 10, 3) from ds_dec (i := (119, .goto 10, 3, 0, 0, 0, .int 0)) ok_X9_findFar 69 rfl) (t := 129) (by decide) ?_
          refine x_X9_findFar_129 v2 v3 (σ.1 1 v3.toNatClampNeg) (σ.1 2 v3.toNatClampNeg) ((σ.1 9 ((σ.1 2 v3.toNatClampNeg).toNatClampNeg)) + (σ.1 4 v3.toNatClampNeg)) (σ.1 1 v3.toNatClampNeg) _ σ Q _ ?_ h
          · intro v2_3 v3_3 g1_3 g4_3 g5_3 σ3 h
            exact ih v2_3 v3_3 _ _ _ σ3 Q K191 hK191 h
def w_X9_findFar_33 : Nat → (v2 : Int32) → (σ : ds_S) → (Q : Option Value → ds_S → Prop) → Prop
  | 0, _, _, _ => False
  | f + 1, v2, σ, Q => (((σ.1 0 0) ≤ v2 → Q none σ) ∧ (¬ (σ.1 0 0) ≤ v2 → ∃ n, w_X9_findFar_43 n v2 (0 : Int32) σ Q (fun v2_1 σ1 => w_X9_findFar_33 f (v2_1 + (1 : Int32)) σ1 Q)))
theorem x_X9_findFar_33 : ∀ (f : Nat) (v2 : Int32) (g1 : Option Value) (g3 : Option Value) (g4 : Option Value) (g5 : Option Value) (σ : ds_S) (Q : Option Value → ds_S → Prop), w_X9_findFar_33 f v2 σ Q → ds_X mt_X9_findFar Ym 33 [some (.ref 0), g1, some (.int v2), g3, g4, g5] [] σ Q := by
  intro f
  induction f with
  | zero => intro v2 g1 g3 g4 g5 σ Q h; exact False.elim h
  | succ f ih =>
    intro v2 g1 g3 g4 g5 σ Q h
    rw [w_X9_findFar_33] at h
    refine ds_blk (ls2 := [some (.ref 0), g1, some (.int v2), g3, g4, g5]) (st2 := [.int (σ.1 0 0), .int v2]) (σ2 := σ) ok_X9_findFar 19 3 33 38 [ds_k Ym 0 9] rfl rfl rfl rfl ⟨⟨by decide, rfl⟩, trivial⟩ ?_
    refine ds_ic_ge (show decode mt_X9_findFar.2.1 38 = .ok (.if_icmp .ge 159, 3) from ds_dec (i := (38, .if_icmp .ge 159, 3, 0, 0, 0, .int 0)) ok_X9_findFar 22 rfl) (t := 197) (by decide) (fun hc => ?_) (fun hc => ?_)
    · replace h := h.1 hc
      exact ds_vret (show decode mt_X9_findFar.2.1 197 = .ok (.return_, 1) from ds_dec (i := (197, .return_, 1, 0, 0, 0, .int 0)) ok_X9_findFar 111 rfl) rfl h
    · replace h := h.2 hc
      refine ds_blk (ls2 := [some (.ref 0), g1, some (.int v2), some (.int (0 : Int32)), g4, g5]) (st2 := []) (σ2 := σ) ok_X9_findFar 23 2 41 43 [] rfl rfl rfl rfl trivial ?_
      obtain ⟨n, h⟩ := h
      refine x_X9_findFar_43 n v2 (0 : Int32) _ _ _ σ Q _ ?_ h
      · intro v2_1 g1_1 g3_1 g4_1 g5_1 σ1 h
        refine ds_blk (ls2 := [some (.ref 0), (ds_nl g1_1), some (.int (v2_1 + (1 : Int32))), g3_1, g4_1, g5_1]) (st2 := []) (σ2 := σ1) ok_X9_findFar 109 1 191 194 [] rfl rfl rfl rfl trivial ?_
        refine ds_goto (show decode mt_X9_findFar.2.1 194 = .ok (.goto (-161), 3) from ds_dec (i := (194, .goto (-161), 3, 0, 0, 0, .int 0)) ok_X9_findFar 110 rfl) (t := 33) (by decide) ?_
        exact ih (v2_1 + (1 : Int32)) _ _ _ _ σ1 Q h
def w_X9_findFar (a1 : Int32) (σ : ds_S) (Q : Option Value → ds_S → Prop) : Prop := ∃ n, w_X9_findFar_2 n a1 (0 : Int32) σ Q (fun σ1 => ∃ n, w_X9_findFar_33 n (0 : Int32) σ1 Q)
theorem e_X9_findFar (a1 : Int32) (σ : ds_S) (Q : Option Value → ds_S → Prop) (h : w_X9_findFar a1 σ Q) : ds_E mt_X9_findFar Ym [.ref 0, .int a1] σ Q := by
  refine ds_enter (by decide) (Nat.le_of_ble_eq_true rfl) ?_
  show ds_X mt_X9_findFar Ym 0 [some (.ref 0), some (.int a1), none, none, none, none] [] σ Q
  unfold w_X9_findFar at h
  refine ds_blk (ls2 := [some (.ref 0), some (.int a1), some (.int (0 : Int32)), none, none, none]) (st2 := []) (σ2 := σ) ok_X9_findFar 0 2 0 2 [] rfl rfl rfl rfl trivial ?_
  obtain ⟨n, h⟩ := h
  refine x_X9_findFar_2 n a1 (0 : Int32) _ _ _ σ Q _ ?_ h
  · intro g1_1 g2_1 g3_1 g4_1 g5_1 σ1 h
    refine ds_blk (ls2 := [some (.ref 0), (ds_nl g1_1), some (.int (0 : Int32)), g3_1, g4_1, g5_1]) (st2 := []) (σ2 := σ1) ok_X9_findFar 17 2 31 33 [] rfl rfl rfl rfl trivial ?_
    obtain ⟨n, h⟩ := h
    refine x_X9_findFar_33 n (0 : Int32) _ _ _ _ σ1 Q h
def w_X9_least (a1 : Int32) (a2 : Int32) (σ : ds_S) (Q : Option Value → ds_S → Prop) : Prop := (((q_bx a1 (σ.1 0 0)) = 0 → Q (some (.int (-1 : Int32))) σ) ∧ (¬ (q_bx a1 (σ.1 0 0)) = 0 → ((¬ (q_bx a2 (σ.1 0 0)) = 0 → ds_EV mt_X9_findFar Ym [.ref 0, .int a2] σ (fun σ3 => vp_in a1 6 ∧ (((1000000 : Int32) ≤ (σ3.1 9 a1.toNatClampNeg) → Q (some (.int (-6 : Int32))) σ3) ∧ (¬ (1000000 : Int32) ≤ (σ3.1 9 a1.toNatClampNeg) → vp_in a1 6 ∧ Q (some (.int (σ3.1 9 a1.toNatClampNeg))) σ3)))) ∧ ((q_bx a2 (σ.1 0 0)) = 0 → Q (some (.int (-1 : Int32))) σ))))
theorem e_X9_least (a1 : Int32) (a2 : Int32) (σ : ds_S) (Q : Option Value → ds_S → Prop) (h : w_X9_least a1 a2 σ Q) : ds_E mt_X9_least Ym [.ref 0, .int a1, .int a2] σ Q := by
  refine ds_enter (by decide) (Nat.le_of_ble_eq_true rfl) ?_
  show ds_X mt_X9_least Ym 0 [some (.ref 0), some (.int a1), some (.int a2)] [] σ Q
  unfold w_X9_least at h
  refine ds_blk (ls2 := [some (.ref 0), some (.int a1), some (.int a2)]) (st2 := [.int a1, .ref 0]) (σ2 := σ) ok_X9_least 0 2 0 2 [] rfl rfl rfl rfl trivial ?_
  refine ds_callV (z := mt_X9_isBox) (b := 0) (as := [.int a1]) (rest := []) (show decode mt_X9_least.2.1 2 = .ok (.invokevirtual 88, 3) from ds_dec (i := (2, .invokevirtual 88, 3, 0, 0, 843, .int 0)) ok_X9_least 2 rfl) (ds_E.mono (sp_X9_isBox a1 σ ) (fun r σ1 hr => ?_)) ⟨zw_X9_isBox.1, zw_X9_isBox.2.1, zw_X9_isBox.2.2, by decide, by decide⟩ (ds_wb_T (p := 843) (by decide +kernel)) zi_X9_isBox zs_X9_isBox (by decide) rfl ⟨_, rfl, rfl⟩ (Nat.le_of_ble_eq_true rfl)
  obtain ⟨x9, rfl, e8, e9⟩ := hr
  rw [e8, e9]
  show ds_X mt_X9_least Ym 5 [some (.ref 0), some (.int a1), some (.int a2)] [.int (q_bx a1 (σ.1 0 0))] σ Q
  refine ds_if_eq (show decode mt_X9_least.2.1 5 = .ok (.ifCond .eq 11, 3) from ds_dec (i := (5, .ifCond .eq 11, 3, 0, 0, 0, .int 0)) ok_X9_least 3 rfl) (t := 16) (by decide) (fun hc => ?_) (fun hc => ?_)
  · replace h := h.1 hc
    refine ds_blk (ls2 := [some (.ref 0), some (.int a1), some (.int a2)]) (st2 := [.int (-1 : Int32)]) (σ2 := σ) ok_X9_least 8 1 16 17 [] rfl rfl rfl rfl trivial ?_
    exact ds_iret (show decode mt_X9_least.2.1 17 = .ok (.ireturn, 1) from ds_dec (i := (17, .ireturn, 1, 0, 0, 0, .int 0)) ok_X9_least 9 rfl) rfl h
  · replace h := h.2 hc
    refine ds_blk (ls2 := [some (.ref 0), some (.int a1), some (.int a2)]) (st2 := [.int a2, .ref 0]) (σ2 := σ) ok_X9_least 4 2 8 10 [] rfl rfl rfl rfl trivial ?_
    refine ds_callV (z := mt_X9_isBox) (b := 0) (as := [.int a2]) (rest := []) (show decode mt_X9_least.2.1 10 = .ok (.invokevirtual 88, 3) from ds_dec (i := (10, .invokevirtual 88, 3, 0, 0, 843, .int 0)) ok_X9_least 6 rfl) (ds_E.mono (sp_X9_isBox a2 σ ) (fun r σ2 hr => ?_)) ⟨zw_X9_isBox.1, zw_X9_isBox.2.1, zw_X9_isBox.2.2, by decide, by decide⟩ (ds_wb_T (p := 843) (by decide +kernel)) zi_X9_isBox zs_X9_isBox (by decide) rfl ⟨_, rfl, rfl⟩ (Nat.le_of_ble_eq_true rfl)
    obtain ⟨x9, rfl, e8, e9⟩ := hr
    rw [e8, e9]
    show ds_X mt_X9_least Ym 13 [some (.ref 0), some (.int a1), some (.int a2)] [.int (q_bx a2 (σ.1 0 0))] σ Q
    refine ds_if_ne (show decode mt_X9_least.2.1 13 = .ok (.ifCond .ne 5, 3) from ds_dec (i := (13, .ifCond .ne 5, 3, 0, 0, 0, .int 0)) ok_X9_least 7 rfl) (t := 18) (by decide) (fun hc => ?_) (fun hc => ?_)
    · replace h := h.1 hc
      refine ds_blk (ls2 := [some (.ref 0), some (.int a1), some (.int a2)]) (st2 := [.int a2, .ref 0]) (σ2 := σ) ok_X9_least 10 2 18 20 [] rfl rfl rfl rfl trivial ?_
      refine ds_callV (z := mt_X9_findFar) (b := 0) (as := [.int a2]) (rest := []) (show decode mt_X9_least.2.1 20 = .ok (.invokevirtual 112, 3) from ds_dec (i := (20, .invokevirtual 112, 3, 0, 0, 881, .int 0)) ok_X9_least 12 rfl) (ds_E.mono h (fun r σ3 hr => ?_)) ⟨zw_X9_findFar.1, zw_X9_findFar.2.1, zw_X9_findFar.2.2, by decide, by decide⟩ (ds_wb_T (p := 881) (by decide +kernel)) zi_X9_findFar zs_X9_findFar (by decide) rfl ⟨_, rfl, rfl⟩ (Nat.le_of_ble_eq_true rfl)
      obtain ⟨rfl, h⟩ := hr
      show ds_X mt_X9_least Ym 23 [some (.ref 0), some (.int a1), some (.int a2)] [] σ3 Q
      obtain ⟨o1, h⟩ := h
      refine ds_blk (ls2 := [some (.ref 0), some (.int a1), some (.int a2)]) (st2 := [.int (1000000 : Int32), .int (σ3.1 9 a1.toNatClampNeg)]) (σ2 := σ3) ok_X9_least 13 5 23 31 [ds_k Ym 0 9, ds_k Ym 9 10, vp_in a1 6] rfl rfl rfl rfl ⟨⟨by decide, rfl⟩, ⟨by decide, rfl⟩, o1, trivial⟩ ?_
      refine ds_ic_ge (show decode mt_X9_least.2.1 31 = .ok (.if_icmp .ge 12, 3) from ds_dec (i := (31, .if_icmp .ge 12, 3, 0, 0, 0, .int 0)) ok_X9_least 18 rfl) (t := 43) (by decide) (fun hc => ?_) (fun hc => ?_)
      · replace h := h.1 hc
        refine ds_blk (ls2 := [some (.ref 0), some (.int a1), some (.int a2)]) (st2 := [.int (-6 : Int32)]) (σ2 := σ3) ok_X9_least 24 1 43 45 [] rfl rfl rfl rfl trivial ?_
        exact ds_iret (show decode mt_X9_least.2.1 45 = .ok (.ireturn, 1) from ds_dec (i := (45, .ireturn, 1, 0, 0, 0, .int 0)) ok_X9_least 25 rfl) rfl h
      · replace h := h.2 hc
        obtain ⟨o2, h⟩ := h
        refine ds_blk (ls2 := [some (.ref 0), some (.int a1), some (.int a2)]) (st2 := [.int (σ3.1 9 a1.toNatClampNeg)]) (σ2 := σ3) ok_X9_least 19 4 34 40 [ds_k Ym 0 9, ds_k Ym 9 10, vp_in a1 6] rfl rfl rfl rfl ⟨⟨by decide, rfl⟩, ⟨by decide, rfl⟩, o2, trivial⟩ ?_
        refine ds_goto (show decode mt_X9_least.2.1 40 = .ok (.goto 5, 3) from ds_dec (i := (40, .goto 5, 3, 0, 0, 0, .int 0)) ok_X9_least 23 rfl) (t := 45) (by decide) ?_
        exact ds_iret (show decode mt_X9_least.2.1 45 = .ok (.ireturn, 1) from ds_dec (i := (45, .ireturn, 1, 0, 0, 0, .int 0)) ok_X9_least 25 rfl) rfl h
    · replace h := h.2 hc
      refine ds_blk (ls2 := [some (.ref 0), some (.int a1), some (.int a2)]) (st2 := [.int (-1 : Int32)]) (σ2 := σ) ok_X9_least 8 1 16 17 [] rfl rfl rfl rfl trivial ?_
      exact ds_iret (show decode mt_X9_least.2.1 17 = .ok (.ireturn, 1) from ds_dec (i := (17, .ireturn, 1, 0, 0, 0, .int 0)) ok_X9_least 9 rfl) rfl h
def w_X9_isNext_39 (v1 : Int32) (v3 : Int32) (t0 : Int32) (σ : ds_S) (Q : Option Value → ds_S → Prop) : Prop := vp_in v1 10 ∧ (((q_th (σ.1 6 v1.toNatClampNeg) v1 (σ.1 0 13)) = 0 → Q (some (.int (0 : Int32))) σ) ∧ (¬ (q_th (σ.1 6 v1.toNatClampNeg) v1 (σ.1 0 13)) = 0 → vp_in v3 6 ∧ (((1000000 : Int32) ≤ (σ.1 9 v3.toNatClampNeg) → Q (some (.int (0 : Int32))) σ) ∧ (¬ (1000000 : Int32) ≤ (σ.1 9 v3.toNatClampNeg) → vp_in t0 6 ∧ (((1000000 : Int32) ≤ (σ.1 9 t0.toNatClampNeg) → Q (some (.int (0 : Int32))) σ) ∧ (¬ (1000000 : Int32) ≤ (σ.1 9 t0.toNatClampNeg) → vp_in t0 6 ∧ vp_in v1 10 ∧ vp_in v3 6 ∧ ((¬ ((σ.1 9 t0.toNatClampNeg) + (σ.1 4 v1.toNatClampNeg)) = (σ.1 9 v3.toNatClampNeg) → Q (some (.int (0 : Int32))) σ) ∧ (((σ.1 9 t0.toNatClampNeg) + (σ.1 4 v1.toNatClampNeg)) = (σ.1 9 v3.toNatClampNeg) → Q (some (.int (1 : Int32))) σ))))))))
theorem x_X9_isNext_39 (v1 : Int32) (v3 : Int32) (t0 : Int32) (g2 : Option Value) (g4 : Option Value) (σ : ds_S) (Q : Option Value → ds_S → Prop) (h : w_X9_isNext_39 v1 v3 t0 σ Q) : ds_X mt_X9_isNext Ym 39 [some (.ref 0), some (.int v1), g2, some (.int v3), g4] [.int t0] σ Q := by
  unfold w_X9_isNext_39 at h
  refine ds_blk (ls2 := [some (.ref 0), some (.int v1), g2, some (.int v3), some (.int t0)]) (st2 := [.int v1, .ref 0]) (σ2 := σ) ok_X9_isNext 23 3 39 43 [] rfl rfl rfl rfl trivial ?_
  obtain ⟨o1, h⟩ := h
  refine ds_callV (z := mt_X9_isThere) (b := 0) (as := [.int v1]) (rest := []) (show decode mt_X9_isNext.2.1 43 = .ok (.invokevirtual 109, 3) from ds_dec (i := (43, .invokevirtual 109, 3, 0, 0, 886, .int 0)) ok_X9_isNext 26 rfl) (ds_E.mono (sp_X9_isThere v1 σ o1) (fun r σ1 hr => ?_)) ⟨zw_X9_isThere.1, zw_X9_isThere.2.1, zw_X9_isThere.2.2, by decide, by decide⟩ (ds_wb_T (p := 886) (by decide +kernel)) zi_X9_isThere zs_X9_isThere (by decide) rfl ⟨_, rfl, rfl⟩ (Nat.le_of_ble_eq_true rfl)
  obtain ⟨x9, rfl, e8, e9⟩ := hr
  rw [e8, e9]
  show ds_X mt_X9_isNext Ym 46 [some (.ref 0), some (.int v1), g2, some (.int v3), some (.int t0)] [.int (q_th (σ.1 6 v1.toNatClampNeg) v1 (σ.1 0 13))] σ Q
  refine ds_if_eq (show decode mt_X9_isNext.2.1 46 = .ok (.ifCond .eq 53, 3) from ds_dec (i := (46, .ifCond .eq 53, 3, 0, 0, 0, .int 0)) ok_X9_isNext 27 rfl) (t := 99) (by decide) (fun hc => ?_) (fun hc => ?_)
  · replace h := h.1 hc
    refine ds_blk (ls2 := [some (.ref 0), some (.int v1), g2, some (.int v3), some (.int t0)]) (st2 := [.int (0 : Int32)]) (σ2 := σ) ok_X9_isNext 56 1 99 100 [] rfl rfl rfl rfl trivial ?_
    exact ds_zret (show decode mt_X9_isNext.2.1 100 = .ok (.ireturn, 1) from ds_dec (i := (100, .ireturn, 1, 0, 0, 0, .int 0)) ok_X9_isNext 57 rfl) rfl (by decide) h
  · replace h := h.2 hc
    obtain ⟨o2, h⟩ := h
    refine ds_blk (ls2 := [some (.ref 0), some (.int v1), g2, some (.int v3), some (.int t0)]) (st2 := [.int (1000000 : Int32), .int (σ.1 9 v3.toNatClampNeg)]) (σ2 := σ) ok_X9_isNext 28 5 49 57 [ds_k Ym 0 9, ds_k Ym 9 10, vp_in v3 6] rfl rfl rfl rfl ⟨⟨by decide, rfl⟩, ⟨by decide, rfl⟩, o2, trivial⟩ ?_
    refine ds_ic_ge (show decode mt_X9_isNext.2.1 57 = .ok (.if_icmp .ge 42, 3) from ds_dec (i := (57, .if_icmp .ge 42, 3, 0, 0, 0, .int 0)) ok_X9_isNext 33 rfl) (t := 99) (by decide) (fun hc => ?_) (fun hc => ?_)
    · replace h := h.1 hc
      refine ds_blk (ls2 := [some (.ref 0), some (.int v1), g2, some (.int v3), some (.int t0)]) (st2 := [.int (0 : Int32)]) (σ2 := σ) ok_X9_isNext 56 1 99 100 [] rfl rfl rfl rfl trivial ?_
      exact ds_zret (show decode mt_X9_isNext.2.1 100 = .ok (.ireturn, 1) from ds_dec (i := (100, .ireturn, 1, 0, 0, 0, .int 0)) ok_X9_isNext 57 rfl) rfl (by decide) h
    · replace h := h.2 hc
      obtain ⟨o3, h⟩ := h
      refine ds_blk (ls2 := [some (.ref 0), some (.int v1), g2, some (.int v3), some (.int t0)]) (st2 := [.int (1000000 : Int32), .int (σ.1 9 t0.toNatClampNeg)]) (σ2 := σ) ok_X9_isNext 34 5 60 69 [ds_k Ym 0 9, ds_k Ym 9 10, vp_in t0 6] rfl rfl rfl rfl ⟨⟨by decide, rfl⟩, ⟨by decide, rfl⟩, o3, trivial⟩ ?_
      refine ds_ic_ge (show decode mt_X9_isNext.2.1 69 = .ok (.if_icmp .ge 30, 3) from ds_dec (i := (69, .if_icmp .ge 30, 3, 0, 0, 0, .int 0)) ok_X9_isNext 39 rfl) (t := 99) (by decide) (fun hc => ?_) (fun hc => ?_)
      · replace h := h.1 hc
        refine ds_blk (ls2 := [some (.ref 0), some (.int v1), g2, some (.int v3), some (.int t0)]) (st2 := [.int (0 : Int32)]) (σ2 := σ) ok_X9_isNext 56 1 99 100 [] rfl rfl rfl rfl trivial ?_
        exact ds_zret (show decode mt_X9_isNext.2.1 100 = .ok (.ireturn, 1) from ds_dec (i := (100, .ireturn, 1, 0, 0, 0, .int 0)) ok_X9_isNext 57 rfl) rfl (by decide) h
      · replace h := h.2 hc
        obtain ⟨o4, o5, o6, h⟩ := h
        refine ds_blk (ls2 := [some (.ref 0), some (.int v1), g2, some (.int v3), some (.int t0)]) (st2 := [.int (σ.1 9 v3.toNatClampNeg), .int ((σ.1 9 t0.toNatClampNeg) + (σ.1 4 v1.toNatClampNeg))]) (σ2 := σ) ok_X9_isNext 40 13 72 92 [ds_k Ym 0 9, ds_k Ym 9 10, vp_in t0 6, ds_k Ym 0 9, ds_k Ym 4 10, vp_in v1 10, ds_k Ym 0 9, ds_k Ym 9 10, vp_in v3 6] rfl rfl rfl rfl ⟨⟨by decide, rfl⟩, ⟨by decide, rfl⟩, o4, ⟨by decide, rfl⟩, ⟨by decide, rfl⟩, o5, ⟨by decide, rfl⟩, ⟨by decide, rfl⟩, o6, trivial⟩ ?_
        refine ds_ic_ne (show decode mt_X9_isNext.2.1 92 = .ok (.if_icmp .ne 7, 3) from ds_dec (i := (92, .if_icmp .ne 7, 3, 0, 0, 0, .int 0)) ok_X9_isNext 53 rfl) (t := 99) (by decide) (fun hc => ?_) (fun hc => ?_)
        · replace h := h.1 hc
          refine ds_blk (ls2 := [some (.ref 0), some (.int v1), g2, some (.int v3), some (.int t0)]) (st2 := [.int (0 : Int32)]) (σ2 := σ) ok_X9_isNext 56 1 99 100 [] rfl rfl rfl rfl trivial ?_
          exact ds_zret (show decode mt_X9_isNext.2.1 100 = .ok (.ireturn, 1) from ds_dec (i := (100, .ireturn, 1, 0, 0, 0, .int 0)) ok_X9_isNext 57 rfl) rfl (by decide) h
        · replace h := h.2 hc
          refine ds_blk (ls2 := [some (.ref 0), some (.int v1), g2, some (.int v3), some (.int t0)]) (st2 := [.int (1 : Int32)]) (σ2 := σ) ok_X9_isNext 54 1 95 96 [] rfl rfl rfl rfl trivial ?_
          refine ds_goto (show decode mt_X9_isNext.2.1 96 = .ok (.goto 4, 3) from ds_dec (i := (96, .goto 4, 3, 0, 0, 0, .int 0)) ok_X9_isNext 55 rfl) (t := 100) (by decide) ?_
          exact ds_zret (show decode mt_X9_isNext.2.1 100 = .ok (.ireturn, 1) from ds_dec (i := (100, .ireturn, 1, 0, 0, 0, .int 0)) ok_X9_isNext 57 rfl) rfl (by decide) h
def w_X9_isNext_19 (v1 : Int32) (v2 : Int32) (t0 : Int32) (σ : ds_S) (Q : Option Value → ds_S → Prop) : Prop := ((¬ v2 = 0 → vp_in v1 10 ∧ w_X9_isNext_39 v1 t0 (σ.1 1 v1.toNatClampNeg) σ Q) ∧ (v2 = 0 → vp_in v1 10 ∧ w_X9_isNext_39 v1 t0 (σ.1 2 v1.toNatClampNeg) σ Q))
theorem x_X9_isNext_19 (v1 : Int32) (v2 : Int32) (t0 : Int32) (g3 : Option Value) (g4 : Option Value) (σ : ds_S) (Q : Option Value → ds_S → Prop) (h : w_X9_isNext_19 v1 v2 t0 σ Q) : ds_X mt_X9_isNext Ym 19 [some (.ref 0), some (.int v1), some (.int v2), g3, g4] [.int t0] σ Q := by
  unfold w_X9_isNext_19 at h
  refine ds_blk (ls2 := [some (.ref 0), some (.int v1), some (.int v2), some (.int t0), g4]) (st2 := [.int v2]) (σ2 := σ) ok_X9_isNext 11 2 19 21 [] rfl rfl rfl rfl trivial ?_
  refine ds_if_ne (show decode mt_X9_isNext.2.1 21 = .ok (.ifCond .ne 12, 3) from ds_dec (i := (21, .ifCond .ne 12, 3, 0, 0, 0, .int 0)) ok_X9_isNext 13 rfl) (t := 33) (by decide) (fun hc => ?_) (fun hc => ?_)
  · replace h := h.1 hc
    obtain ⟨o1, h⟩ := h
    refine ds_blk (ls2 := [some (.ref 0), some (.int v1), some (.int v2), some (.int t0), g4]) (st2 := [.int (σ.1 1 v1.toNatClampNeg)]) (σ2 := σ) ok_X9_isNext 19 4 33 39 [ds_k Ym 0 9, ds_k Ym 1 10, vp_in v1 10] rfl rfl rfl rfl ⟨⟨by decide, rfl⟩, ⟨by decide, rfl⟩, o1, trivial⟩ ?_
    refine x_X9_isNext_39 v1 t0 (σ.1 1 v1.toNatClampNeg) _ _ σ Q h
  · replace h := h.2 hc
    obtain ⟨o2, h⟩ := h
    refine ds_blk (ls2 := [some (.ref 0), some (.int v1), some (.int v2), some (.int t0), g4]) (st2 := [.int (σ.1 2 v1.toNatClampNeg)]) (σ2 := σ) ok_X9_isNext 14 4 24 30 [ds_k Ym 0 9, ds_k Ym 2 10, vp_in v1 10] rfl rfl rfl rfl ⟨⟨by decide, rfl⟩, ⟨by decide, rfl⟩, o2, trivial⟩ ?_
    refine ds_goto (show decode mt_X9_isNext.2.1 30 = .ok (.goto 9, 3) from ds_dec (i := (30, .goto 9, 3, 0, 0, 0, .int 0)) ok_X9_isNext 18 rfl) (t := 39) (by decide) ?_
    refine x_X9_isNext_39 v1 t0 (σ.1 2 v1.toNatClampNeg) _ _ σ Q h
def w_X9_isNext (a1 : Int32) (a2 : Int32) (σ : ds_S) (Q : Option Value → ds_S → Prop) : Prop := ((¬ a2 = 0 → vp_in a1 10 ∧ w_X9_isNext_19 a1 a2 (σ.1 2 a1.toNatClampNeg) σ Q) ∧ (a2 = 0 → vp_in a1 10 ∧ w_X9_isNext_19 a1 a2 (σ.1 1 a1.toNatClampNeg) σ Q))
theorem e_X9_isNext (a1 : Int32) (a2 : Int32) (σ : ds_S) (Q : Option Value → ds_S → Prop) (h : w_X9_isNext a1 a2 σ Q) : ds_E mt_X9_isNext Ym [.ref 0, .int a1, .int a2] σ Q := by
  refine ds_enter (by decide) (Nat.le_of_ble_eq_true rfl) ?_
  show ds_X mt_X9_isNext Ym 0 [some (.ref 0), some (.int a1), some (.int a2), none, none] [] σ Q
  unfold w_X9_isNext at h
  refine ds_blk (ls2 := [some (.ref 0), some (.int a1), some (.int a2), none, none]) (st2 := [.int a2]) (σ2 := σ) ok_X9_isNext 0 1 0 1 [] rfl rfl rfl rfl trivial ?_
  refine ds_if_ne (show decode mt_X9_isNext.2.1 1 = .ok (.ifCond .ne 12, 3) from ds_dec (i := (1, .ifCond .ne 12, 3, 0, 0, 0, .int 0)) ok_X9_isNext 1 rfl) (t := 13) (by decide) (fun hc => ?_) (fun hc => ?_)
  · replace h := h.1 hc
    obtain ⟨o1, h⟩ := h
    refine ds_blk (ls2 := [some (.ref 0), some (.int a1), some (.int a2), none, none]) (st2 := [.int (σ.1 2 a1.toNatClampNeg)]) (σ2 := σ) ok_X9_isNext 7 4 13 19 [ds_k Ym 0 9, ds_k Ym 2 10, vp_in a1 10] rfl rfl rfl rfl ⟨⟨by decide, rfl⟩, ⟨by decide, rfl⟩, o1, trivial⟩ ?_
    refine x_X9_isNext_19 a1 a2 (σ.1 2 a1.toNatClampNeg) _ _ σ Q h
  · replace h := h.2 hc
    obtain ⟨o2, h⟩ := h
    refine ds_blk (ls2 := [some (.ref 0), some (.int a1), some (.int a2), none, none]) (st2 := [.int (σ.1 1 a1.toNatClampNeg)]) (σ2 := σ) ok_X9_isNext 2 4 4 10 [ds_k Ym 0 9, ds_k Ym 1 10, vp_in a1 10] rfl rfl rfl rfl ⟨⟨by decide, rfl⟩, ⟨by decide, rfl⟩, o2, trivial⟩ ?_
    refine ds_goto (show decode mt_X9_isNext.2.1 10 = .ok (.goto 9, 3) from ds_dec (i := (10, .goto 9, 3, 0, 0, 0, .int 0)) ok_X9_isNext 6 rfl) (t := 19) (by decide) ?_
    refine x_X9_isNext_19 a1 a2 (σ.1 1 a1.toNatClampNeg) _ _ σ Q h
def w_X9_nextOf_55 (v1 : Int32) (v2 : Int32) (v3 : Int32) (t0 : Int32) (σ : ds_S) (Q : Option Value → ds_S → Prop) (K4 : Int32 → Int32 → Int32 → ds_S → Prop) : Prop := ((t0 = 0 → K4 v1 (v2 ||| (0 : Int32)) (v3 + (1 : Int32)) σ) ∧ (¬ t0 = 0 → K4 v1 (v2 ||| ((1 : Int32) <<< (v3 &&& 31))) (v3 + (1 : Int32)) σ))
theorem x_X9_nextOf_55 (v1 : Int32) (v2 : Int32) (v3 : Int32) (t0 : Int32) (g4 : Option Value) (σ : ds_S) (Q : Option Value → ds_S → Prop) (K4 : Int32 → Int32 → Int32 → ds_S → Prop) (hK4 : ∀ (v1 : Int32) (v2 : Int32) (v3 : Int32) (g4 : Option Value) (σ2 : ds_S), K4 v1 v2 v3 σ2 → ds_X mt_X9_nextOf Ym 4 [some (.ref 0), some (.int v1), some (.int v2), some (.int v3), g4] [] σ2 Q) (h : w_X9_nextOf_55 v1 v2 v3 t0 σ Q K4) : ds_X mt_X9_nextOf Ym 55 [some (.ref 0), some (.int v1), some (.int v2), some (.int v3), g4] [.int t0] σ Q := by
  unfold w_X9_nextOf_55 at h
  refine ds_blk (ls2 := [some (.ref 0), some (.int v1), some (.int v2), some (.int v3), some (.int t0)]) (st2 := [.int t0, .int v2]) (σ2 := σ) ok_X9_nextOf 33 3 55 60 [] rfl rfl rfl rfl trivial ?_
  refine ds_if_eq (show decode mt_X9_nextOf.2.1 60 = .ok (.ifCond .eq 9, 3) from ds_dec (i := (60, .ifCond .eq 9, 3, 0, 0, 0, .int 0)) ok_X9_nextOf 36 rfl) (t := 69) (by decide) (fun hc => ?_) (fun hc => ?_)
  · replace h := h.1 hc
    refine ds_blk (ls2 := [some (.ref 0), some (.int v1), some (.int (v2 ||| (0 : Int32))), some (.int (v3 + (1 : Int32))), some (.int t0)]) (st2 := []) (σ2 := σ) ok_X9_nextOf 41 4 69 75 [] rfl rfl rfl rfl trivial ?_
    refine ds_goto (show decode mt_X9_nextOf.2.1 75 = .ok (.goto (-71), 3) from ds_dec (i := (75, .goto (-71), 3, 0, 0, 0, .int 0)) ok_X9_nextOf 45 rfl) (t := 4) (by decide) ?_
    exact hK4 v1 (v2 ||| (0 : Int32)) (v3 + (1 : Int32)) _ σ h
  · replace h := h.2 hc
    refine ds_blk (ls2 := [some (.ref 0), some (.int v1), some (.int v2), some (.int v3), some (.int t0)]) (st2 := [.int ((1 : Int32) <<< (v3 &&& 31)), .int v2]) (σ2 := σ) ok_X9_nextOf 37 3 63 66 [] rfl rfl rfl rfl trivial ?_
    refine ds_goto (show decode mt_X9_nextOf.2.1 66 = .ok (.goto 4, 3) from ds_dec (i := (66, .goto 4, 3, 0, 0, 0, .int 0)) ok_X9_nextOf 40 rfl) (t := 70) (by decide) ?_
    refine ds_blk (ls2 := [some (.ref 0), some (.int v1), some (.int (v2 ||| ((1 : Int32) <<< (v3 &&& 31)))), some (.int (v3 + (1 : Int32))), some (.int t0)]) (st2 := []) (σ2 := σ) ok_X9_nextOf 42 3 70 75 [] rfl rfl rfl rfl trivial ?_
    refine ds_goto (show decode mt_X9_nextOf.2.1 75 = .ok (.goto (-71), 3) from ds_dec (i := (75, .goto (-71), 3, 0, 0, 0, .int 0)) ok_X9_nextOf 45 rfl) (t := 4) (by decide) ?_
    exact hK4 v1 (v2 ||| ((1 : Int32) <<< (v3 &&& 31))) (v3 + (1 : Int32)) _ σ h
def w_X9_nextOf_31 (v1 : Int32) (v2 : Int32) (v3 : Int32) (σ : ds_S) (Q : Option Value → ds_S → Prop) (K4 : Int32 → Int32 → Int32 → ds_S → Prop) : Prop := vp_in v3 10 ∧ ((¬ (σ.1 2 v3.toNatClampNeg) = v1 → w_X9_nextOf_55 v1 v2 v3 (0 : Int32) σ Q K4) ∧ ((σ.1 2 v3.toNatClampNeg) = v1 → ds_EI mt_X9_isNext Ym [.ref 0, .int v3, .int (1 : Int32)] σ (fun r1 σ1 => ((r1 = 0 → w_X9_nextOf_55 v1 v2 v3 (0 : Int32) σ1 Q K4) ∧ (¬ r1 = 0 → w_X9_nextOf_55 v1 v2 v3 (1 : Int32) σ1 Q K4)))))
theorem x_X9_nextOf_31 (v1 : Int32) (v2 : Int32) (v3 : Int32) (g4 : Option Value) (σ : ds_S) (Q : Option Value → ds_S → Prop) (K4 : Int32 → Int32 → Int32 → ds_S → Prop) (hK4 : ∀ (v1 : Int32) (v2 : Int32) (v3 : Int32) (g4 : Option Value) (σ2 : ds_S), K4 v1 v2 v3 σ2 → ds_X mt_X9_nextOf Ym 4 [some (.ref 0), some (.int v1), some (.int v2), some (.int v3), g4] [] σ2 Q) (h : w_X9_nextOf_31 v1 v2 v3 σ Q K4) : ds_X mt_X9_nextOf Ym 31 [some (.ref 0), some (.int v1), some (.int v2), some (.int v3), g4] [] σ Q := by
  unfold w_X9_nextOf_31 at h
  obtain ⟨o1, h⟩ := h
  refine ds_blk (ls2 := [some (.ref 0), some (.int v1), some (.int v2), some (.int v3), g4]) (st2 := [.int v1, .int (σ.1 2 v3.toNatClampNeg)]) (σ2 := σ) ok_X9_nextOf 19 5 31 38 [ds_k Ym 0 9, ds_k Ym 2 10, vp_in v3 10] rfl rfl rfl rfl ⟨⟨by decide, rfl⟩, ⟨by decide, rfl⟩, o1, trivial⟩ ?_
  refine ds_ic_ne (show decode mt_X9_nextOf.2.1 38 = .ok (.if_icmp .ne 16, 3) from ds_dec (i := (38, .if_icmp .ne 16, 3, 0, 0, 0, .int 0)) ok_X9_nextOf 24 rfl) (t := 54) (by decide) (fun hc => ?_) (fun hc => ?_)
  · replace h := h.1 hc
    refine ds_blk (ls2 := [some (.ref 0), some (.int v1), some (.int v2), some (.int v3), g4]) (st2 := [.int (0 : Int32)]) (σ2 := σ) ok_X9_nextOf 32 1 54 55 [] rfl rfl rfl rfl trivial ?_
    refine x_X9_nextOf_55 v1 v2 v3 (0 : Int32) _ σ Q K4 hK4 h
  · replace h := h.2 hc
    refine ds_blk (ls2 := [some (.ref 0), some (.int v1), some (.int v2), some (.int v3), g4]) (st2 := [.int (1 : Int32), .int v3, .ref 0]) (σ2 := σ) ok_X9_nextOf 25 3 41 44 [] rfl rfl rfl rfl trivial ?_
    refine ds_callV (z := mt_X9_isNext) (b := 0) (as := [.int v3, .int (1 : Int32)]) (rest := []) (show decode mt_X9_nextOf.2.1 44 = .ok (.invokevirtual 116, 3) from ds_dec (i := (44, .invokevirtual 116, 3, 0, 0, 898, .int 0)) ok_X9_nextOf 28 rfl) (ds_E.mono h (fun r σ1 hr => ?_)) ⟨zw_X9_isNext.1, zw_X9_isNext.2.1, zw_X9_isNext.2.2, by decide, by decide⟩ (ds_wb_T (p := 898) (by decide +kernel)) zi_X9_isNext zs_X9_isNext (by decide) rfl ⟨_, rfl, rfl⟩ (Nat.le_of_ble_eq_true rfl)
    obtain ⟨r1, rfl, h⟩ := hr
    show ds_X mt_X9_nextOf Ym 47 [some (.ref 0), some (.int v1), some (.int v2), some (.int v3), g4] [.int r1] σ1 Q
    refine ds_if_eq (show decode mt_X9_nextOf.2.1 47 = .ok (.ifCond .eq 7, 3) from ds_dec (i := (47, .ifCond .eq 7, 3, 0, 0, 0, .int 0)) ok_X9_nextOf 29 rfl) (t := 54) (by decide) (fun hc => ?_) (fun hc => ?_)
    · replace h := h.1 hc
      refine ds_blk (ls2 := [some (.ref 0), some (.int v1), some (.int v2), some (.int v3), g4]) (st2 := [.int (0 : Int32)]) (σ2 := σ1) ok_X9_nextOf 32 1 54 55 [] rfl rfl rfl rfl trivial ?_
      refine x_X9_nextOf_55 v1 v2 v3 (0 : Int32) _ σ1 Q K4 hK4 h
    · replace h := h.2 hc
      refine ds_blk (ls2 := [some (.ref 0), some (.int v1), some (.int v2), some (.int v3), g4]) (st2 := [.int (1 : Int32)]) (σ2 := σ1) ok_X9_nextOf 30 1 50 51 [] rfl rfl rfl rfl trivial ?_
      refine ds_goto (show decode mt_X9_nextOf.2.1 51 = .ok (.goto 4, 3) from ds_dec (i := (51, .goto 4, 3, 0, 0, 0, .int 0)) ok_X9_nextOf 31 rfl) (t := 55) (by decide) ?_
      refine x_X9_nextOf_55 v1 v2 v3 (1 : Int32) _ σ1 Q K4 hK4 h
def w_X9_nextOf_4 : Nat → (v1 : Int32) → (v2 : Int32) → (v3 : Int32) → (σ : ds_S) → (Q : Option Value → ds_S → Prop) → Prop
  | 0, _, _, _, _, _ => False
  | f + 1, v1, v2, v3, σ, Q => (((σ.1 0 7) ≤ v3 → Q (some (.int v2)) σ) ∧ (¬ (σ.1 0 7) ≤ v3 → vp_in v3 10 ∧ ((¬ (σ.1 1 v3.toNatClampNeg) = v1 → w_X9_nextOf_31 v1 v2 v3 σ Q (fun v1_1 v2_1 v3_1 σ1 => w_X9_nextOf_4 f v1_1 v2_1 v3_1 σ1 Q)) ∧ ((σ.1 1 v3.toNatClampNeg) = v1 → ds_EI mt_X9_isNext Ym [.ref 0, .int v3, .int (0 : Int32)] σ (fun r2 σ2 => ((¬ r2 = 0 → w_X9_nextOf_55 v1 v2 v3 (1 : Int32) σ2 Q (fun v1_3 v2_3 v3_3 σ3 => w_X9_nextOf_4 f v1_3 v2_3 v3_3 σ3 Q)) ∧ (r2 = 0 → w_X9_nextOf_31 v1 v2 v3 σ2 Q (fun v1_4 v2_4 v3_4 σ4 => w_X9_nextOf_4 f v1_4 v2_4 v3_4 σ4 Q))))))))
theorem x_X9_nextOf_4 : ∀ (f : Nat) (v1 : Int32) (v2 : Int32) (v3 : Int32) (g4 : Option Value) (σ : ds_S) (Q : Option Value → ds_S → Prop), w_X9_nextOf_4 f v1 v2 v3 σ Q → ds_X mt_X9_nextOf Ym 4 [some (.ref 0), some (.int v1), some (.int v2), some (.int v3), g4] [] σ Q := by
  intro f
  induction f with
  | zero => intro v1 v2 v3 g4 σ Q h; exact False.elim h
  | succ f ih =>
    intro v1 v2 v3 g4 σ Q h
    rw [w_X9_nextOf_4] at h
    refine ds_blk (ls2 := [some (.ref 0), some (.int v1), some (.int v2), some (.int v3), g4]) (st2 := [.int (σ.1 0 7), .int v3]) (σ2 := σ) ok_X9_nextOf 4 3 4 9 [ds_k Ym 0 9] rfl rfl rfl rfl ⟨⟨by decide, rfl⟩, trivial⟩ ?_
    refine ds_ic_ge (show decode mt_X9_nextOf.2.1 9 = .ok (.if_icmp .ge 69, 3) from ds_dec (i := (9, .if_icmp .ge 69, 3, 0, 0, 0, .int 0)) ok_X9_nextOf 7 rfl) (t := 78) (by decide) (fun hc => ?_) (fun hc => ?_)
    · replace h := h.1 hc
      refine ds_blk (ls2 := [some (.ref 0), some (.int v1), some (.int v2), some (.int v3), g4]) (st2 := [.int v2]) (σ2 := σ) ok_X9_nextOf 46 1 78 79 [] rfl rfl rfl rfl trivial ?_
      exact ds_iret (show decode mt_X9_nextOf.2.1 79 = .ok (.ireturn, 1) from ds_dec (i := (79, .ireturn, 1, 0, 0, 0, .int 0)) ok_X9_nextOf 47 rfl) rfl h
    · replace h := h.2 hc
      obtain ⟨o1, h⟩ := h
      refine ds_blk (ls2 := [some (.ref 0), some (.int v1), some (.int v2), some (.int v3), g4]) (st2 := [.int v1, .int (σ.1 1 v3.toNatClampNeg)]) (σ2 := σ) ok_X9_nextOf 8 5 12 19 [ds_k Ym 0 9, ds_k Ym 1 10, vp_in v3 10] rfl rfl rfl rfl ⟨⟨by decide, rfl⟩, ⟨by decide, rfl⟩, o1, trivial⟩ ?_
      refine ds_ic_ne (show decode mt_X9_nextOf.2.1 19 = .ok (.if_icmp .ne 12, 3) from ds_dec (i := (19, .if_icmp .ne 12, 3, 0, 0, 0, .int 0)) ok_X9_nextOf 13 rfl) (t := 31) (by decide) (fun hc => ?_) (fun hc => ?_)
      · replace h := h.1 hc
        refine x_X9_nextOf_31 v1 v2 v3 _ σ Q _ ?_ h
        · intro v1_1 v2_1 v3_1 g4_1 σ1 h
          exact ih v1_1 v2_1 v3_1 _ σ1 Q h
      · replace h := h.2 hc
        refine ds_blk (ls2 := [some (.ref 0), some (.int v1), some (.int v2), some (.int v3), g4]) (st2 := [.int (0 : Int32), .int v3, .ref 0]) (σ2 := σ) ok_X9_nextOf 14 3 22 25 [] rfl rfl rfl rfl trivial ?_
        refine ds_callV (z := mt_X9_isNext) (b := 0) (as := [.int v3, .int (0 : Int32)]) (rest := []) (show decode mt_X9_nextOf.2.1 25 = .ok (.invokevirtual 116, 3) from ds_dec (i := (25, .invokevirtual 116, 3, 0, 0, 898, .int 0)) ok_X9_nextOf 17 rfl) (ds_E.mono h (fun r σ2 hr => ?_)) ⟨zw_X9_isNext.1, zw_X9_isNext.2.1, zw_X9_isNext.2.2, by decide, by decide⟩ (ds_wb_T (p := 898) (by decide +kernel)) zi_X9_isNext zs_X9_isNext (by decide) rfl ⟨_, rfl, rfl⟩ (Nat.le_of_ble_eq_true rfl)
        obtain ⟨r2, rfl, h⟩ := hr
        show ds_X mt_X9_nextOf Ym 28 [some (.ref 0), some (.int v1), some (.int v2), some (.int v3), g4] [.int r2] σ2 Q
        refine ds_if_ne (show decode mt_X9_nextOf.2.1 28 = .ok (.ifCond .ne 22, 3) from ds_dec (i := (28, .ifCond .ne 22, 3, 0, 0, 0, .int 0)) ok_X9_nextOf 18 rfl) (t := 50) (by decide) (fun hc => ?_) (fun hc => ?_)
        · replace h := h.1 hc
          refine ds_blk (ls2 := [some (.ref 0), some (.int v1), some (.int v2), some (.int v3), g4]) (st2 := [.int (1 : Int32)]) (σ2 := σ2) ok_X9_nextOf 30 1 50 51 [] rfl rfl rfl rfl trivial ?_
          refine ds_goto (show decode mt_X9_nextOf.2.1 51 = .ok (.goto 4, 3) from ds_dec (i := (51, .goto 4, 3, 0, 0, 0, .int 0)) ok_X9_nextOf 31 rfl) (t := 55) (by decide) ?_
          refine x_X9_nextOf_55 v1 v2 v3 (1 : Int32) _ σ2 Q _ ?_ h
          · intro v1_3 v2_3 v3_3 g4_3 σ3 h
            exact ih v1_3 v2_3 v3_3 _ σ3 Q h
        · replace h := h.2 hc
          refine x_X9_nextOf_31 v1 v2 v3 _ σ2 Q _ ?_ h
          · intro v1_4 v2_4 v3_4 g4_4 σ4 h
            exact ih v1_4 v2_4 v3_4 _ σ4 Q h
def w_X9_nextOf (a1 : Int32) (σ : ds_S) (Q : Option Value → ds_S → Prop) : Prop := ∃ n, w_X9_nextOf_4 n a1 (0 : Int32) (0 : Int32) σ Q
theorem e_X9_nextOf (a1 : Int32) (σ : ds_S) (Q : Option Value → ds_S → Prop) (h : w_X9_nextOf a1 σ Q) : ds_E mt_X9_nextOf Ym [.ref 0, .int a1] σ Q := by
  refine ds_enter (by decide) (Nat.le_of_ble_eq_true rfl) ?_
  show ds_X mt_X9_nextOf Ym 0 [some (.ref 0), some (.int a1), none, none, none] [] σ Q
  unfold w_X9_nextOf at h
  refine ds_blk (ls2 := [some (.ref 0), some (.int a1), some (.int (0 : Int32)), some (.int (0 : Int32)), none]) (st2 := []) (σ2 := σ) ok_X9_nextOf 0 4 0 4 [] rfl rfl rfl rfl trivial ?_
  obtain ⟨n, h⟩ := h
  refine x_X9_nextOf_4 n a1 (0 : Int32) (0 : Int32) _ σ Q h
def w_X9_next (a1 : Int32) (a2 : Int32) (σ : ds_S) (Q : Option Value → ds_S → Prop) : Prop := (((q_bx a1 (σ.1 0 0)) = 0 → Q (some (.int (-1 : Int32))) σ) ∧ (¬ (q_bx a1 (σ.1 0 0)) = 0 → ((¬ (q_bx a2 (σ.1 0 0)) = 0 → ds_EV mt_X9_findFar Ym [.ref 0, .int a2] σ (fun σ3 => ds_EI mt_X9_nextOf Ym [.ref 0, .int a1] σ3 (fun r4 σ4 => Q (some (.int r4)) σ4))) ∧ ((q_bx a2 (σ.1 0 0)) = 0 → Q (some (.int (-1 : Int32))) σ))))
theorem e_X9_next (a1 : Int32) (a2 : Int32) (σ : ds_S) (Q : Option Value → ds_S → Prop) (h : w_X9_next a1 a2 σ Q) : ds_E mt_X9_next Ym [.ref 0, .int a1, .int a2] σ Q := by
  refine ds_enter (by decide) (Nat.le_of_ble_eq_true rfl) ?_
  show ds_X mt_X9_next Ym 0 [some (.ref 0), some (.int a1), some (.int a2)] [] σ Q
  unfold w_X9_next at h
  refine ds_blk (ls2 := [some (.ref 0), some (.int a1), some (.int a2)]) (st2 := [.int a1, .ref 0]) (σ2 := σ) ok_X9_next 0 2 0 2 [] rfl rfl rfl rfl trivial ?_
  refine ds_callV (z := mt_X9_isBox) (b := 0) (as := [.int a1]) (rest := []) (show decode mt_X9_next.2.1 2 = .ok (.invokevirtual 88, 3) from ds_dec (i := (2, .invokevirtual 88, 3, 0, 0, 843, .int 0)) ok_X9_next 2 rfl) (ds_E.mono (sp_X9_isBox a1 σ ) (fun r σ1 hr => ?_)) ⟨zw_X9_isBox.1, zw_X9_isBox.2.1, zw_X9_isBox.2.2, by decide, by decide⟩ (ds_wb_T (p := 843) (by decide +kernel)) zi_X9_isBox zs_X9_isBox (by decide) rfl ⟨_, rfl, rfl⟩ (Nat.le_of_ble_eq_true rfl)
  obtain ⟨x9, rfl, e8, e9⟩ := hr
  rw [e8, e9]
  show ds_X mt_X9_next Ym 5 [some (.ref 0), some (.int a1), some (.int a2)] [.int (q_bx a1 (σ.1 0 0))] σ Q
  refine ds_if_eq (show decode mt_X9_next.2.1 5 = .ok (.ifCond .eq 11, 3) from ds_dec (i := (5, .ifCond .eq 11, 3, 0, 0, 0, .int 0)) ok_X9_next 3 rfl) (t := 16) (by decide) (fun hc => ?_) (fun hc => ?_)
  · replace h := h.1 hc
    refine ds_blk (ls2 := [some (.ref 0), some (.int a1), some (.int a2)]) (st2 := [.int (-1 : Int32)]) (σ2 := σ) ok_X9_next 8 1 16 17 [] rfl rfl rfl rfl trivial ?_
    exact ds_iret (show decode mt_X9_next.2.1 17 = .ok (.ireturn, 1) from ds_dec (i := (17, .ireturn, 1, 0, 0, 0, .int 0)) ok_X9_next 9 rfl) rfl h
  · replace h := h.2 hc
    refine ds_blk (ls2 := [some (.ref 0), some (.int a1), some (.int a2)]) (st2 := [.int a2, .ref 0]) (σ2 := σ) ok_X9_next 4 2 8 10 [] rfl rfl rfl rfl trivial ?_
    refine ds_callV (z := mt_X9_isBox) (b := 0) (as := [.int a2]) (rest := []) (show decode mt_X9_next.2.1 10 = .ok (.invokevirtual 88, 3) from ds_dec (i := (10, .invokevirtual 88, 3, 0, 0, 843, .int 0)) ok_X9_next 6 rfl) (ds_E.mono (sp_X9_isBox a2 σ ) (fun r σ2 hr => ?_)) ⟨zw_X9_isBox.1, zw_X9_isBox.2.1, zw_X9_isBox.2.2, by decide, by decide⟩ (ds_wb_T (p := 843) (by decide +kernel)) zi_X9_isBox zs_X9_isBox (by decide) rfl ⟨_, rfl, rfl⟩ (Nat.le_of_ble_eq_true rfl)
    obtain ⟨x9, rfl, e8, e9⟩ := hr
    rw [e8, e9]
    show ds_X mt_X9_next Ym 13 [some (.ref 0), some (.int a1), some (.int a2)] [.int (q_bx a2 (σ.1 0 0))] σ Q
    refine ds_if_ne (show decode mt_X9_next.2.1 13 = .ok (.ifCond .ne 5, 3) from ds_dec (i := (13, .ifCond .ne 5, 3, 0, 0, 0, .int 0)) ok_X9_next 7 rfl) (t := 18) (by decide) (fun hc => ?_) (fun hc => ?_)
    · replace h := h.1 hc
      refine ds_blk (ls2 := [some (.ref 0), some (.int a1), some (.int a2)]) (st2 := [.int a2, .ref 0]) (σ2 := σ) ok_X9_next 10 2 18 20 [] rfl rfl rfl rfl trivial ?_
      refine ds_callV (z := mt_X9_findFar) (b := 0) (as := [.int a2]) (rest := []) (show decode mt_X9_next.2.1 20 = .ok (.invokevirtual 112, 3) from ds_dec (i := (20, .invokevirtual 112, 3, 0, 0, 881, .int 0)) ok_X9_next 12 rfl) (ds_E.mono h (fun r σ3 hr => ?_)) ⟨zw_X9_findFar.1, zw_X9_findFar.2.1, zw_X9_findFar.2.2, by decide, by decide⟩ (ds_wb_T (p := 881) (by decide +kernel)) zi_X9_findFar zs_X9_findFar (by decide) rfl ⟨_, rfl, rfl⟩ (Nat.le_of_ble_eq_true rfl)
      obtain ⟨rfl, h⟩ := hr
      show ds_X mt_X9_next Ym 23 [some (.ref 0), some (.int a1), some (.int a2)] [] σ3 Q
      refine ds_blk (ls2 := [some (.ref 0), some (.int a1), some (.int a2)]) (st2 := [.int a1, .ref 0]) (σ2 := σ3) ok_X9_next 13 2 23 25 [] rfl rfl rfl rfl trivial ?_
      refine ds_callV (z := mt_X9_nextOf) (b := 0) (as := [.int a1]) (rest := []) (show decode mt_X9_next.2.1 25 = .ok (.invokevirtual 120, 3) from ds_dec (i := (25, .invokevirtual 120, 3, 0, 0, 894, .int 0)) ok_X9_next 15 rfl) (ds_E.mono h (fun r σ4 hr => ?_)) ⟨zw_X9_nextOf.1, zw_X9_nextOf.2.1, zw_X9_nextOf.2.2, by decide, by decide⟩ (ds_wb_T (p := 894) (by decide +kernel)) zi_X9_nextOf zs_X9_nextOf (by decide) rfl ⟨_, rfl, rfl⟩ (Nat.le_of_ble_eq_true rfl)
      obtain ⟨r4, rfl, h⟩ := hr
      show ds_X mt_X9_next Ym 28 [some (.ref 0), some (.int a1), some (.int a2)] [.int r4] σ4 Q
      exact ds_iret (show decode mt_X9_next.2.1 28 = .ok (.ireturn, 1) from ds_dec (i := (28, .ireturn, 1, 0, 0, 0, .int 0)) ok_X9_next 16 rfl) rfl h
    · replace h := h.2 hc
      refine ds_blk (ls2 := [some (.ref 0), some (.int a1), some (.int a2)]) (st2 := [.int (-1 : Int32)]) (σ2 := σ) ok_X9_next 8 1 16 17 [] rfl rfl rfl rfl trivial ?_
      exact ds_iret (show decode mt_X9_next.2.1 17 = .ok (.ireturn, 1) from ds_dec (i := (17, .ireturn, 1, 0, 0, 0, .int 0)) ok_X9_next 9 rfl) rfl h
def w_X9_goDown_7 : Nat → (v1 : Int32) → (σ : ds_S) → (Q : Option Value → ds_S → Prop) → (K49 : ds_S → Prop) → Prop
  | 0, _, _, _, _ => False
  | f + 1, v1, σ, Q, K49 => (((σ.1 0 0) ≤ v1 → K49 σ) ∧ (¬ (σ.1 0 0) ≤ v1 → ds_EI mt_X9_nextOf Ym [.ref 0, .int v1] σ (fun r1 σ1 => (((q_ones r1) ≤ 0 → w_X9_goDown_7 f (v1 + (1 : Int32)) (ds_wl σ1 0 16 ((σ1.2 0 16) * (1 : Int64))) Q K49) ∧ (¬ (q_ones r1) ≤ 0 → w_X9_goDown_7 f (v1 + (1 : Int32)) (ds_wl σ1 0 16 ((σ1.2 0 16) * (q_ones r1).toInt64)) Q K49)))))
theorem x_X9_goDown_7 : ∀ (f : Nat) (v1 : Int32) (g2 : Option Value) (g3 : Option Value) (g4 : Option Value) (σ : ds_S) (Q : Option Value → ds_S → Prop) (K49 : ds_S → Prop) (hK49 : ∀ (g1 : Option Value) (g2 : Option Value) (g3 : Option Value) (g4 : Option Value) (σ2 : ds_S), K49 σ2 → ds_X mt_X9_goDown Ym 49 [some (.ref 0), g1, g2, g3, g4] [] σ2 Q), w_X9_goDown_7 f v1 σ Q K49 → ds_X mt_X9_goDown Ym 7 [some (.ref 0), some (.int v1), g2, g3, g4] [] σ Q := by
  intro f
  induction f with
  | zero => intro v1 g2 g3 g4 σ Q K49 hK49 h; exact False.elim h
  | succ f ih =>
    intro v1 g2 g3 g4 σ Q K49 hK49 h
    rw [w_X9_goDown_7] at h
    refine ds_blk (ls2 := [some (.ref 0), some (.int v1), g2, g3, g4]) (st2 := [.int (σ.1 0 0), .int v1]) (σ2 := σ) ok_X9_goDown 5 3 7 12 [ds_k Ym 0 9] rfl rfl rfl rfl ⟨⟨by decide, rfl⟩, trivial⟩ ?_
    refine ds_ic_ge (show decode mt_X9_goDown.2.1 12 = .ok (.if_icmp .ge 37, 3) from ds_dec (i := (12, .if_icmp .ge 37, 3, 0, 0, 0, .int 0)) ok_X9_goDown 8 rfl) (t := 49) (by decide) (fun hc => ?_) (fun hc => ?_)
    · replace h := h.1 hc
      exact hK49  _ _ _ _ σ h
    · replace h := h.2 hc
      refine ds_blk (ls2 := [some (.ref 0), some (.int v1), g2, g3, g4]) (st2 := [.int v1, .ref 0]) (σ2 := σ) ok_X9_goDown 9 2 15 17 [] rfl rfl rfl rfl trivial ?_
      refine ds_callV (z := mt_X9_nextOf) (b := 0) (as := [.int v1]) (rest := []) (show decode mt_X9_goDown.2.1 17 = .ok (.invokevirtual 120, 3) from ds_dec (i := (17, .invokevirtual 120, 3, 0, 0, 894, .int 0)) ok_X9_goDown 11 rfl) (ds_E.mono h (fun r σ1 hr => ?_)) ⟨zw_X9_nextOf.1, zw_X9_nextOf.2.1, zw_X9_nextOf.2.2, by decide, by decide⟩ (ds_wb_T (p := 894) (by decide +kernel)) zi_X9_nextOf zs_X9_nextOf (by decide) rfl ⟨_, rfl, rfl⟩ (Nat.le_of_ble_eq_true rfl)
      obtain ⟨r1, rfl, h⟩ := hr
      show ds_X mt_X9_goDown Ym 20 [some (.ref 0), some (.int v1), g2, g3, g4] [.int r1] σ1 Q
      refine ds_callS (z := mt_X9_ones) (as := [.int r1]) (rest := []) (show decode mt_X9_goDown.2.1 20 = .ok (.invokestatic 128, 3) from ds_dec (i := (20, .invokestatic 128, 3, 0, 0, 912, .int 0)) ok_X9_goDown 12 rfl) (ds_E.mono (sp_X9_ones r1 σ1 ) (fun r σ2 hr => ?_)) ⟨zw_X9_ones.1, zw_X9_ones.2.1, zw_X9_ones.2.2, by decide, by decide⟩ (ds_wb_T (p := 912) (by decide +kernel)) zt_X9_ones (Nat.le_of_ble_eq_true rfl)
      obtain ⟨x9, rfl, e8, e9⟩ := hr
      rw [e8, e9]
      show ds_X mt_X9_goDown Ym 23 [some (.ref 0), some (.int v1), g2, g3, g4] [.int (q_ones r1)] σ1 Q
      refine ds_blk (ls2 := [some (.ref 0), some (.int v1), some (.int (q_ones r1)), g3, g4]) (st2 := [.int (q_ones r1), .long (σ1.2 0 16), .ref 0]) (σ2 := σ1) ok_X9_goDown 13 5 23 30 [ds_k Ym 0 9] rfl rfl rfl rfl ⟨⟨by decide, rfl⟩, trivial⟩ ?_
      refine ds_if_le (show decode mt_X9_goDown.2.1 30 = .ok (.ifCond .le 8, 3) from ds_dec (i := (30, .ifCond .le 8, 3, 0, 0, 0, .int 0)) ok_X9_goDown 18 rfl) (t := 38) (by decide) (fun hc => ?_) (fun hc => ?_)
      · replace h := h.1 hc
        refine ds_blk (ls2 := [some (.ref 0), some (.int (v1 + (1 : Int32))), some (.int (q_ones r1)), g3, g4]) (st2 := []) (σ2 := (ds_wl σ1 0 16 ((σ1.2 0 16) * (1 : Int64)))) ok_X9_goDown 22 4 38 46 [ds_k Ym 0 9] rfl rfl rfl rfl ⟨⟨by decide, rfl⟩, trivial⟩ ?_
        refine ds_goto (show decode mt_X9_goDown.2.1 46 = .ok (.goto (-39), 3) from ds_dec (i := (46, .goto (-39), 3, 0, 0, 0, .int 0)) ok_X9_goDown 26 rfl) (t := 7) (by decide) ?_
        exact ih (v1 + (1 : Int32)) _ _ _ (ds_wl σ1 0 16 ((σ1.2 0 16) * (1 : Int64))) Q K49 hK49 h
      · replace h := h.2 hc
        refine ds_blk (ls2 := [some (.ref 0), some (.int v1), some (.int (q_ones r1)), g3, g4]) (st2 := [.long ((q_ones r1).toInt64), .long (σ1.2 0 16), .ref 0]) (σ2 := σ1) ok_X9_goDown 19 2 33 35 [] rfl rfl rfl rfl trivial ?_
        refine ds_goto (show decode mt_X9_goDown.2.1 35 = .ok (.goto 4, 3) from ds_dec (i := (35, .goto 4, 3, 0, 0, 0, .int 0)) ok_X9_goDown 21 rfl) (t := 39) (by decide) ?_
        refine ds_blk (ls2 := [some (.ref 0), some (.int (v1 + (1 : Int32))), some (.int (q_ones r1)), g3, g4]) (st2 := []) (σ2 := (ds_wl σ1 0 16 ((σ1.2 0 16) * (q_ones r1).toInt64))) ok_X9_goDown 23 3 39 46 [ds_k Ym 0 9] rfl rfl rfl rfl ⟨⟨by decide, rfl⟩, trivial⟩ ?_
        refine ds_goto (show decode mt_X9_goDown.2.1 46 = .ok (.goto (-39), 3) from ds_dec (i := (46, .goto (-39), 3, 0, 0, 0, .int 0)) ok_X9_goDown 26 rfl) (t := 7) (by decide) ?_
        exact ih (v1 + (1 : Int32)) _ _ _ (ds_wl σ1 0 16 ((σ1.2 0 16) * (q_ones r1).toInt64)) Q K49 hK49 h
def w_X9_goDown_51 : Nat → (v1 : Int32) → (σ : ds_S) → (Q : Option Value → ds_S → Prop) → (K70 : ds_S → Prop) → Prop
  | 0, _, _, _, _ => False
  | f + 1, v1, σ, Q, K70 => (((20 : Int32) ≤ v1 → K70 σ) ∧ (¬ (20 : Int32) ≤ v1 → vp_in v1 20 ∧ w_X9_goDown_51 f (v1 + (1 : Int32)) (ds_wl σ 11 v1.toNatClampNeg (0 : Int64)) Q K70))
theorem x_X9_goDown_51 : ∀ (f : Nat) (v1 : Int32) (g2 : Option Value) (g3 : Option Value) (g4 : Option Value) (σ : ds_S) (Q : Option Value → ds_S → Prop) (K70 : ds_S → Prop) (hK70 : ∀ (g1 : Option Value) (g2 : Option Value) (g3 : Option Value) (g4 : Option Value) (σ2 : ds_S), K70 σ2 → ds_X mt_X9_goDown Ym 70 [some (.ref 0), g1, g2, g3, g4] [] σ2 Q), w_X9_goDown_51 f v1 σ Q K70 → ds_X mt_X9_goDown Ym 51 [some (.ref 0), some (.int v1), g2, g3, g4] [] σ Q := by
  intro f
  induction f with
  | zero => intro v1 g2 g3 g4 σ Q K70 hK70 h; exact False.elim h
  | succ f ih =>
    intro v1 g2 g3 g4 σ Q K70 hK70 h
    rw [w_X9_goDown_51] at h
    refine ds_blk (ls2 := [some (.ref 0), some (.int v1), g2, g3, g4]) (st2 := [.int (20 : Int32), .int v1]) (σ2 := σ) ok_X9_goDown 29 2 51 54 [] rfl rfl rfl rfl trivial ?_
    refine ds_ic_ge (show decode mt_X9_goDown.2.1 54 = .ok (.if_icmp .ge 16, 3) from ds_dec (i := (54, .if_icmp .ge 16, 3, 0, 0, 0, .int 0)) ok_X9_goDown 31 rfl) (t := 70) (by decide) (fun hc => ?_) (fun hc => ?_)
    · replace h := h.1 hc
      exact hK70  _ _ _ _ σ h
    · replace h := h.2 hc
      obtain ⟨o1, h⟩ := h
      refine ds_blk (ls2 := [some (.ref 0), some (.int (v1 + (1 : Int32))), g2, g3, g4]) (st2 := []) (σ2 := (ds_wl σ 11 v1.toNatClampNeg (0 : Int64))) ok_X9_goDown 32 6 57 67 [ds_k Ym 0 9, ds_k Ym 11 11, vp_in v1 20] rfl rfl rfl rfl ⟨⟨by decide, rfl⟩, ⟨by decide, rfl⟩, o1, trivial⟩ ?_
      refine ds_goto (show decode mt_X9_goDown.2.1 67 = .ok (.goto (-16), 3) from ds_dec (i := (67, .goto (-16), 3, 0, 0, 0, .int 0)) ok_X9_goDown 38 rfl) (t := 51) (by decide) ?_
      exact ih (v1 + (1 : Int32)) _ _ _ (ds_wl σ 11 v1.toNatClampNeg (0 : Int64)) Q K70 hK70 h
def w_X9_goDown_74 : Nat → (v1 : Int32) → (v2 : Int32) → (σ : ds_S) → (Q : Option Value → ds_S → Prop) → (K120 : Int32 → ds_S → Prop) → Prop
  | 0, _, _, _, _, _ => False
  | f + 1, v1, v2, σ, Q, K120 => (((σ.1 0 0) ≤ v2 → K120 v1 σ) ∧ (¬ (σ.1 0 0) ≤ v2 → vp_in v2 6 ∧ (((1000000 : Int32) ≤ (σ.1 9 v2.toNatClampNeg) → vp_in v2 6 ∧ w_X9_goDown_74 f v1 (v2 + (1 : Int32)) (ds_wl σ 10 v2.toNatClampNeg (0 : Int64)) Q K120) ∧ (¬ (1000000 : Int32) ≤ (σ.1 9 v2.toNatClampNeg) → vp_in v2 6 ∧ vp_in v2 6 ∧ w_X9_goDown_74 f v1 (v2 + (1 : Int32)) (ds_wl σ 10 v2.toNatClampNeg ((σ.2 10 v2.toNatClampNeg) * (σ.2 0 16))) Q K120))))
theorem x_X9_goDown_74 : ∀ (f : Nat) (v1 : Int32) (v2 : Int32) (g3 : Option Value) (g4 : Option Value) (σ : ds_S) (Q : Option Value → ds_S → Prop) (K120 : Int32 → ds_S → Prop) (hK120 : ∀ (v1 : Int32) (g2 : Option Value) (g3 : Option Value) (g4 : Option Value) (σ2 : ds_S), K120 v1 σ2 → ds_X mt_X9_goDown Ym 120 [some (.ref 0), some (.int v1), g2, g3, g4] [] σ2 Q), w_X9_goDown_74 f v1 v2 σ Q K120 → ds_X mt_X9_goDown Ym 74 [some (.ref 0), some (.int v1), some (.int v2), g3, g4] [] σ Q := by
  intro f
  induction f with
  | zero => intro v1 v2 g3 g4 σ Q K120 hK120 h; exact False.elim h
  | succ f ih =>
    intro v1 v2 g3 g4 σ Q K120 hK120 h
    rw [w_X9_goDown_74] at h
    refine ds_blk (ls2 := [some (.ref 0), some (.int v1), some (.int v2), g3, g4]) (st2 := [.int (σ.1 0 0), .int v2]) (σ2 := σ) ok_X9_goDown 43 3 74 79 [ds_k Ym 0 9] rfl rfl rfl rfl ⟨⟨by decide, rfl⟩, trivial⟩ ?_
    refine ds_ic_ge (show decode mt_X9_goDown.2.1 79 = .ok (.if_icmp .ge 41, 3) from ds_dec (i := (79, .if_icmp .ge 41, 3, 0, 0, 0, .int 0)) ok_X9_goDown 46 rfl) (t := 120) (by decide) (fun hc => ?_) (fun hc => ?_)
    · replace h := h.1 hc
      exact hK120 v1 _ _ _ σ h
    · replace h := h.2 hc
      obtain ⟨o1, h⟩ := h
      refine ds_blk (ls2 := [some (.ref 0), some (.int v1), some (.int v2), g3, g4]) (st2 := [.int (1000000 : Int32), .int (σ.1 9 v2.toNatClampNeg), .int v2, .ref 10]) (σ2 := σ) ok_X9_goDown 47 8 82 95 [ds_k Ym 0 9, ds_k Ym 0 9, ds_k Ym 9 10, vp_in v2 6] rfl rfl rfl rfl ⟨⟨by decide, rfl⟩, ⟨by decide, rfl⟩, ⟨by decide, rfl⟩, o1, trivial⟩ ?_
      refine ds_ic_ge (show decode mt_X9_goDown.2.1 95 = .ok (.if_icmp .ge 17, 3) from ds_dec (i := (95, .if_icmp .ge 17, 3, 0, 0, 0, .int 0)) ok_X9_goDown 55 rfl) (t := 112) (by decide) (fun hc => ?_) (fun hc => ?_)
      · replace h := h.1 hc
        obtain ⟨o2, h⟩ := h
        refine ds_blk (ls2 := [some (.ref 0), some (.int v1), some (.int (v2 + (1 : Int32))), g3, g4]) (st2 := []) (σ2 := (ds_wl σ 10 v2.toNatClampNeg (0 : Int64))) ok_X9_goDown 64 3 112 117 [ds_k Ym 10 11, vp_in v2 6] rfl rfl rfl rfl ⟨⟨by decide, rfl⟩, o2, trivial⟩ ?_
        refine ds_goto (show decode mt_X9_goDown.2.1 117 = .ok (.goto (-43), 3) from ds_dec (i := (117, .goto (-43), 3, 0, 0, 0, .int 0)) ok_X9_goDown 67 rfl) (t := 74) (by decide) ?_
        exact ih v1 (v2 + (1 : Int32)) _ _ (ds_wl σ 10 v2.toNatClampNeg (0 : Int64)) Q K120 hK120 h
      · replace h := h.2 hc
        obtain ⟨o3, h⟩ := h
        refine ds_blk (ls2 := [some (.ref 0), some (.int v1), some (.int v2), g3, g4]) (st2 := [.long ((σ.2 10 v2.toNatClampNeg) * (σ.2 0 16)), .int v2, .ref 10]) (σ2 := σ) ok_X9_goDown 56 7 98 109 [ds_k Ym 0 9, ds_k Ym 10 11, vp_in v2 6, ds_k Ym 0 9] rfl rfl rfl rfl ⟨⟨by decide, rfl⟩, ⟨by decide, rfl⟩, o3, ⟨by decide, rfl⟩, trivial⟩ ?_
        refine ds_goto (show decode mt_X9_goDown.2.1 109 = .ok (.goto 4, 3) from ds_dec (i := (109, .goto 4, 3, 0, 0, 0, .int 0)) ok_X9_goDown 63 rfl) (t := 113) (by decide) ?_
        obtain ⟨o4, h⟩ := h
        refine ds_blk (ls2 := [some (.ref 0), some (.int v1), some (.int (v2 + (1 : Int32))), g3, g4]) (st2 := []) (σ2 := (ds_wl σ 10 v2.toNatClampNeg ((σ.2 10 v2.toNatClampNeg) * (σ.2 0 16)))) ok_X9_goDown 65 2 113 117 [ds_k Ym 10 11, vp_in v2 6] rfl rfl rfl rfl ⟨⟨by decide, rfl⟩, o4, trivial⟩ ?_
        refine ds_goto (show decode mt_X9_goDown.2.1 117 = .ok (.goto (-43), 3) from ds_dec (i := (117, .goto (-43), 3, 0, 0, 0, .int 0)) ok_X9_goDown 67 rfl) (t := 74) (by decide) ?_
        exact ih v1 (v2 + (1 : Int32)) _ _ (ds_wl σ 10 v2.toNatClampNeg ((σ.2 10 v2.toNatClampNeg) * (σ.2 0 16))) Q K120 hK120 h
def w_X9_goDown_135 : Nat → (v1 : Int32) → (v2 : Int32) → (v3 : Int32) → (v4 : Int32) → (σ : ds_S) → (Q : Option Value → ds_S → Prop) → (K194 : Int32 → Int32 → Int32 → ds_S → Prop) → Prop
  | 0, _, _, _, _, _, _, _ => False
  | f + 1, v1, v2, v3, v4, σ, Q, K194 => (((σ.1 0 0) ≤ v4 → K194 v1 v2 v3 σ) ∧ (¬ (σ.1 0 0) ≤ v4 → ((¬ ((v1 >>> (v4 &&& 31)) &&& (1 : Int32)) = 0 → w_X9_goDown_135 f v1 v2 v3 (v4 + (1 : Int32)) σ Q K194) ∧ (((v1 >>> (v4 &&& 31)) &&& (1 : Int32)) = 0 → vp_in v4 6 ∧ (((1000000 : Int32) ≤ (σ.1 9 v4.toNatClampNeg) → w_X9_goDown_135 f v1 v2 v3 (v4 + (1 : Int32)) σ Q K194) ∧ (¬ (1000000 : Int32) ≤ (σ.1 9 v4.toNatClampNeg) → ((v3 < 0 → w_X9_goDown_135 f v1 v2 v4 (v4 + (1 : Int32)) σ Q K194) ∧ (¬ v3 < 0 → vp_in v4 6 ∧ vp_in v3 6 ∧ (((σ.1 9 v4.toNatClampNeg) ≤ (σ.1 9 v3.toNatClampNeg) → w_X9_goDown_135 f v1 v2 v3 (v4 + (1 : Int32)) σ Q K194) ∧ (¬ (σ.1 9 v4.toNatClampNeg) ≤ (σ.1 9 v3.toNatClampNeg) → w_X9_goDown_135 f v1 v2 v4 (v4 + (1 : Int32)) σ Q K194))))))))))
theorem x_X9_goDown_135 : ∀ (f : Nat) (v1 : Int32) (v2 : Int32) (v3 : Int32) (v4 : Int32) (σ : ds_S) (Q : Option Value → ds_S → Prop) (K194 : Int32 → Int32 → Int32 → ds_S → Prop) (hK194 : ∀ (v1 : Int32) (v2 : Int32) (v3 : Int32) (g4 : Option Value) (σ2 : ds_S), K194 v1 v2 v3 σ2 → ds_X mt_X9_goDown Ym 194 [some (.ref 0), some (.int v1), some (.int v2), some (.int v3), g4] [] σ2 Q), w_X9_goDown_135 f v1 v2 v3 v4 σ Q K194 → ds_X mt_X9_goDown Ym 135 [some (.ref 0), some (.int v1), some (.int v2), some (.int v3), some (.int v4)] [] σ Q := by
  intro f
  induction f with
  | zero => intro v1 v2 v3 v4 σ Q K194 hK194 h; exact False.elim h
  | succ f ih =>
    intro v1 v2 v3 v4 σ Q K194 hK194 h
    rw [w_X9_goDown_135] at h
    refine ds_blk (ls2 := [some (.ref 0), some (.int v1), some (.int v2), some (.int v3), some (.int v4)]) (st2 := [.int (σ.1 0 0), .int v4]) (σ2 := σ) ok_X9_goDown 78 3 135 141 [ds_k Ym 0 9] rfl rfl rfl rfl ⟨⟨by decide, rfl⟩, trivial⟩ ?_
    refine ds_ic_ge (show decode mt_X9_goDown.2.1 141 = .ok (.if_icmp .ge 53, 3) from ds_dec (i := (141, .if_icmp .ge 53, 3, 0, 0, 0, .int 0)) ok_X9_goDown 81 rfl) (t := 194) (by decide) (fun hc => ?_) (fun hc => ?_)
    · replace h := h.1 hc
      exact hK194 v1 v2 v3 _ σ h
    · replace h := h.2 hc
      refine ds_blk (ls2 := [some (.ref 0), some (.int v1), some (.int v2), some (.int v3), some (.int v4)]) (st2 := [.int ((v1 >>> (v4 &&& 31)) &&& (1 : Int32))]) (σ2 := σ) ok_X9_goDown 82 5 144 150 [] rfl rfl rfl rfl trivial ?_
      refine ds_if_ne (show decode mt_X9_goDown.2.1 150 = .ok (.ifCond .ne 38, 3) from ds_dec (i := (150, .ifCond .ne 38, 3, 0, 0, 0, .int 0)) ok_X9_goDown 87 rfl) (t := 188) (by decide) (fun hc => ?_) (fun hc => ?_)
      · replace h := h.1 hc
        refine ds_blk (ls2 := [some (.ref 0), some (.int v1), some (.int v2), some (.int v3), some (.int (v4 + (1 : Int32)))]) (st2 := []) (σ2 := σ) ok_X9_goDown 107 1 188 191 [] rfl rfl rfl rfl trivial ?_
        refine ds_goto (show decode mt_X9_goDown.2.1 191 = .ok (.goto (-56), 3) from ds_dec (i := (191, .goto (-56), 3, 0, 0, 0, .int 0)) ok_X9_goDown 108 rfl) (t := 135) (by decide) ?_
        exact ih v1 v2 v3 (v4 + (1 : Int32)) σ Q K194 hK194 h
      · replace h := h.2 hc
        obtain ⟨o1, h⟩ := h
        refine ds_blk (ls2 := [some (.ref 0), some (.int v1), some (.int v2), some (.int v3), some (.int v4)]) (st2 := [.int (1000000 : Int32), .int (σ.1 9 v4.toNatClampNeg)]) (σ2 := σ) ok_X9_goDown 88 5 153 162 [ds_k Ym 0 9, ds_k Ym 9 10, vp_in v4 6] rfl rfl rfl rfl ⟨⟨by decide, rfl⟩, ⟨by decide, rfl⟩, o1, trivial⟩ ?_
        refine ds_ic_ge (show decode mt_X9_goDown.2.1 162 = .ok (.if_icmp .ge 26, 3) from ds_dec (i := (162, .if_icmp .ge 26, 3, 0, 0, 0, .int 0)) ok_X9_goDown 93 rfl) (t := 188) (by decide) (fun hc => ?_) (fun hc => ?_)
        · replace h := h.1 hc
          refine ds_blk (ls2 := [some (.ref 0), some (.int v1), some (.int v2), some (.int v3), some (.int (v4 + (1 : Int32)))]) (st2 := []) (σ2 := σ) ok_X9_goDown 107 1 188 191 [] rfl rfl rfl rfl trivial ?_
          refine ds_goto (show decode mt_X9_goDown.2.1 191 = .ok (.goto (-56), 3) from ds_dec (i := (191, .goto (-56), 3, 0, 0, 0, .int 0)) ok_X9_goDown 108 rfl) (t := 135) (by decide) ?_
          exact ih v1 v2 v3 (v4 + (1 : Int32)) σ Q K194 hK194 h
        · replace h := h.2 hc
          refine ds_blk (ls2 := [some (.ref 0), some (.int v1), some (.int v2), some (.int v3), some (.int v4)]) (st2 := [.int v3]) (σ2 := σ) ok_X9_goDown 94 1 165 166 [] rfl rfl rfl rfl trivial ?_
          refine ds_if_lt (show decode mt_X9_goDown.2.1 166 = .ok (.ifCond .lt 19, 3) from ds_dec (i := (166, .ifCond .lt 19, 3, 0, 0, 0, .int 0)) ok_X9_goDown 95 rfl) (t := 185) (by decide) (fun hc => ?_) (fun hc => ?_)
          · replace h := h.1 hc
            refine ds_blk (ls2 := [some (.ref 0), some (.int v1), some (.int v2), some (.int v4), some (.int (v4 + (1 : Int32)))]) (st2 := []) (σ2 := σ) ok_X9_goDown 105 3 185 191 [] rfl rfl rfl rfl trivial ?_
            refine ds_goto (show decode mt_X9_goDown.2.1 191 = .ok (.goto (-56), 3) from ds_dec (i := (191, .goto (-56), 3, 0, 0, 0, .int 0)) ok_X9_goDown 108 rfl) (t := 135) (by decide) ?_
            exact ih v1 v2 v4 (v4 + (1 : Int32)) σ Q K194 hK194 h
          · replace h := h.2 hc
            obtain ⟨o2, o3, h⟩ := h
            refine ds_blk (ls2 := [some (.ref 0), some (.int v1), some (.int v2), some (.int v3), some (.int v4)]) (st2 := [.int (σ.1 9 v3.toNatClampNeg), .int (σ.1 9 v4.toNatClampNeg)]) (σ2 := σ) ok_X9_goDown 96 8 169 182 [ds_k Ym 0 9, ds_k Ym 9 10, vp_in v4 6, ds_k Ym 0 9, ds_k Ym 9 10, vp_in v3 6] rfl rfl rfl rfl ⟨⟨by decide, rfl⟩, ⟨by decide, rfl⟩, o2, ⟨by decide, rfl⟩, ⟨by decide, rfl⟩, o3, trivial⟩ ?_
            refine ds_ic_le (show decode mt_X9_goDown.2.1 182 = .ok (.if_icmp .le 6, 3) from ds_dec (i := (182, .if_icmp .le 6, 3, 0, 0, 0, .int 0)) ok_X9_goDown 104 rfl) (t := 188) (by decide) (fun hc => ?_) (fun hc => ?_)
            · replace h := h.1 hc
              refine ds_blk (ls2 := [some (.ref 0), some (.int v1), some (.int v2), some (.int v3), some (.int (v4 + (1 : Int32)))]) (st2 := []) (σ2 := σ) ok_X9_goDown 107 1 188 191 [] rfl rfl rfl rfl trivial ?_
              refine ds_goto (show decode mt_X9_goDown.2.1 191 = .ok (.goto (-56), 3) from ds_dec (i := (191, .goto (-56), 3, 0, 0, 0, .int 0)) ok_X9_goDown 108 rfl) (t := 135) (by decide) ?_
              exact ih v1 v2 v3 (v4 + (1 : Int32)) σ Q K194 hK194 h
            · replace h := h.2 hc
              refine ds_blk (ls2 := [some (.ref 0), some (.int v1), some (.int v2), some (.int v4), some (.int (v4 + (1 : Int32)))]) (st2 := []) (σ2 := σ) ok_X9_goDown 105 3 185 191 [] rfl rfl rfl rfl trivial ?_
              refine ds_goto (show decode mt_X9_goDown.2.1 191 = .ok (.goto (-56), 3) from ds_dec (i := (191, .goto (-56), 3, 0, 0, 0, .int 0)) ok_X9_goDown 108 rfl) (t := 135) (by decide) ?_
              exact ih v1 v2 v4 (v4 + (1 : Int32)) σ Q K194 hK194 h
def w_X9_goDown_122 : Nat → (v1 : Int32) → (v2 : Int32) → (σ : ds_S) → (Q : Option Value → ds_S → Prop) → Prop
  | 0, _, _, _, _ => False
  | f + 1, v1, v2, σ, Q => (((σ.1 0 0) ≤ v2 → Q none σ) ∧ (¬ (σ.1 0 0) ≤ v2 → ∃ n, w_X9_goDown_135 n v1 v2 (-1 : Int32) (0 : Int32) σ Q (fun v1_1 v2_1 v3_1 σ1 => ((v3_1 < 0 → w_X9_goDown_122 f v1_1 (v2_1 + (1 : Int32)) σ1 Q) ∧ (¬ v3_1 < 0 → ds_EV mt_X9_parts Ym [.ref 0, .int v3_1] σ1 (fun σ2 => w_X9_goDown_122 f (v1_1 ||| ((1 : Int32) <<< (v3_1 &&& 31))) (v2_1 + (1 : Int32)) σ2 Q))))))
theorem x_X9_goDown_122 : ∀ (f : Nat) (v1 : Int32) (v2 : Int32) (g3 : Option Value) (g4 : Option Value) (σ : ds_S) (Q : Option Value → ds_S → Prop), w_X9_goDown_122 f v1 v2 σ Q → ds_X mt_X9_goDown Ym 122 [some (.ref 0), some (.int v1), some (.int v2), g3, g4] [] σ Q := by
  intro f
  induction f with
  | zero => intro v1 v2 g3 g4 σ Q h; exact False.elim h
  | succ f ih =>
    intro v1 v2 g3 g4 σ Q h
    rw [w_X9_goDown_122] at h
    refine ds_blk (ls2 := [some (.ref 0), some (.int v1), some (.int v2), g3, g4]) (st2 := [.int (σ.1 0 0), .int v2]) (σ2 := σ) ok_X9_goDown 70 3 122 127 [ds_k Ym 0 9] rfl rfl rfl rfl ⟨⟨by decide, rfl⟩, trivial⟩ ?_
    refine ds_ic_ge (show decode mt_X9_goDown.2.1 127 = .ok (.if_icmp .ge 88, 3) from ds_dec (i := (127, .if_icmp .ge 88, 3, 0, 0, 0, .int 0)) ok_X9_goDown 73 rfl) (t := 215) (by decide) (fun hc => ?_) (fun hc => ?_)
    · replace h := h.1 hc
      exact ds_vret (show decode mt_X9_goDown.2.1 215 = .ok (.return_, 1) from ds_dec (i := (215, .return_, 1, 0, 0, 0, .int 0)) ok_X9_goDown 122 rfl) rfl h
    · replace h := h.2 hc
      refine ds_blk (ls2 := [some (.ref 0), some (.int v1), some (.int v2), some (.int (-1 : Int32)), some (.int (0 : Int32))]) (st2 := []) (σ2 := σ) ok_X9_goDown 74 4 130 135 [] rfl rfl rfl rfl trivial ?_
      obtain ⟨n, h⟩ := h
      refine x_X9_goDown_135 n v1 v2 (-1 : Int32) (0 : Int32) σ Q _ ?_ h
      · intro v1_1 v2_1 v3_1 g4_1 σ1 h
        refine ds_blk (ls2 := [some (.ref 0), some (.int v1_1), some (.int v2_1), some (.int v3_1), g4_1]) (st2 := [.int v3_1]) (σ2 := σ1) ok_X9_goDown 109 1 194 195 [] rfl rfl rfl rfl trivial ?_
        refine ds_if_lt (show decode mt_X9_goDown.2.1 195 = .ok (.ifCond .lt 14, 3) from ds_dec (i := (195, .ifCond .lt 14, 3, 0, 0, 0, .int 0)) ok_X9_goDown 110 rfl) (t := 209) (by decide) (fun hc => ?_) (fun hc => ?_)
        · replace h := h.1 hc
          refine ds_blk (ls2 := [some (.ref 0), some (.int v1_1), some (.int (v2_1 + (1 : Int32))), some (.int v3_1), g4_1]) (st2 := []) (σ2 := σ1) ok_X9_goDown 120 1 209 212 [] rfl rfl rfl rfl trivial ?_
          refine ds_goto (show decode mt_X9_goDown.2.1 212 = .ok (.goto (-90), 3) from ds_dec (i := (212, .goto (-90), 3, 0, 0, 0, .int 0)) ok_X9_goDown 121 rfl) (t := 122) (by decide) ?_
          exact ih v1_1 (v2_1 + (1 : Int32)) _ _ σ1 Q h
        · replace h := h.2 hc
          refine ds_blk (ls2 := [some (.ref 0), some (.int (v1_1 ||| ((1 : Int32) <<< (v3_1 &&& 31)))), some (.int v2_1), some (.int v3_1), g4_1]) (st2 := [.int v3_1, .ref 0]) (σ2 := σ1) ok_X9_goDown 111 8 198 206 [] rfl rfl rfl rfl trivial ?_
          refine ds_callV (z := mt_X9_parts) (b := 0) (as := [.int v3_1]) (rest := []) (show decode mt_X9_goDown.2.1 206 = .ok (.invokevirtual 131, 3) from ds_dec (i := (206, .invokevirtual 131, 3, 0, 0, 915, .int 0)) ok_X9_goDown 119 rfl) (ds_E.mono h (fun r σ2 hr => ?_)) ⟨zw_X9_parts.1, zw_X9_parts.2.1, zw_X9_parts.2.2, by decide, by decide⟩ (ds_wb_T (p := 915) (by decide +kernel)) zi_X9_parts zs_X9_parts (by decide) rfl ⟨_, rfl, rfl⟩ (Nat.le_of_ble_eq_true rfl)
          obtain ⟨rfl, h⟩ := hr
          show ds_X mt_X9_goDown Ym 209 [some (.ref 0), some (.int (v1_1 ||| ((1 : Int32) <<< (v3_1 &&& 31)))), some (.int v2_1), some (.int v3_1), g4_1] [] σ2 Q
          refine ds_blk (ls2 := [some (.ref 0), some (.int (v1_1 ||| ((1 : Int32) <<< (v3_1 &&& 31)))), some (.int (v2_1 + (1 : Int32))), some (.int v3_1), g4_1]) (st2 := []) (σ2 := σ2) ok_X9_goDown 120 1 209 212 [] rfl rfl rfl rfl trivial ?_
          refine ds_goto (show decode mt_X9_goDown.2.1 212 = .ok (.goto (-90), 3) from ds_dec (i := (212, .goto (-90), 3, 0, 0, 0, .int 0)) ok_X9_goDown 121 rfl) (t := 122) (by decide) ?_
          exact ih (v1_1 ||| ((1 : Int32) <<< (v3_1 &&& 31))) (v2_1 + (1 : Int32)) _ _ σ2 Q h
def w_X9_goDown (σ : ds_S) (Q : Option Value → ds_S → Prop) : Prop := ∃ n, w_X9_goDown_7 n (0 : Int32) (ds_wl σ 0 16 (1 : Int64)) Q (fun σ1 => ∃ n, w_X9_goDown_51 n (0 : Int32) σ1 Q (fun σ2 => ∃ n, w_X9_goDown_74 n (0 : Int32) (0 : Int32) σ2 Q (fun v1_3 σ3 => ∃ n, w_X9_goDown_122 n v1_3 (0 : Int32) σ3 Q)))
theorem e_X9_goDown (σ : ds_S) (Q : Option Value → ds_S → Prop) (h : w_X9_goDown σ Q) : ds_E mt_X9_goDown Ym [.ref 0] σ Q := by
  refine ds_enter (by decide) (Nat.le_of_ble_eq_true rfl) ?_
  show ds_X mt_X9_goDown Ym 0 [some (.ref 0), none, none, none, none] [] σ Q
  unfold w_X9_goDown at h
  refine ds_blk (ls2 := [some (.ref 0), some (.int (0 : Int32)), none, none, none]) (st2 := []) (σ2 := (ds_wl σ 0 16 (1 : Int64))) ok_X9_goDown 0 5 0 7 [ds_k Ym 0 9] rfl rfl rfl rfl ⟨⟨by decide, rfl⟩, trivial⟩ ?_
  obtain ⟨n, h⟩ := h
  refine x_X9_goDown_7 n (0 : Int32) _ _ _ (ds_wl σ 0 16 (1 : Int64)) Q _ ?_ h
  · intro g1_1 g2_1 g3_1 g4_1 σ1 h
    refine ds_blk (ls2 := [some (.ref 0), some (.int (0 : Int32)), g2_1, g3_1, g4_1]) (st2 := []) (σ2 := σ1) ok_X9_goDown 27 2 49 51 [] rfl rfl rfl rfl trivial ?_
    obtain ⟨n, h⟩ := h
    refine x_X9_goDown_51 n (0 : Int32) _ _ _ σ1 Q _ ?_ h
    · intro g1_2 g2_2 g3_2 g4_2 σ2 h
      refine ds_blk (ls2 := [some (.ref 0), some (.int (0 : Int32)), some (.int (0 : Int32)), g3_2, g4_2]) (st2 := []) (σ2 := σ2) ok_X9_goDown 39 4 70 74 [] rfl rfl rfl rfl trivial ?_
      obtain ⟨n, h⟩ := h
      refine x_X9_goDown_74 n (0 : Int32) (0 : Int32) _ _ σ2 Q _ ?_ h
      · intro v1_3 g2_3 g3_3 g4_3 σ3 h
        refine ds_blk (ls2 := [some (.ref 0), some (.int v1_3), some (.int (0 : Int32)), g3_3, g4_3]) (st2 := []) (σ2 := σ3) ok_X9_goDown 68 2 120 122 [] rfl rfl rfl rfl trivial ?_
        obtain ⟨n, h⟩ := h
        refine x_X9_goDown_122 n v1_3 (0 : Int32) _ _ σ3 Q h
def w_X9_parts_77 (v1 : Int32) (v2 : Int32) (v3 : Int32) (v4 : Int32) (v5 : Int32) (t0 : Int32) (σ : ds_S) (Q : Option Value → ds_S → Prop) (K14 : Int32 → Int32 → Int32 → Int32 → ds_S → Prop) : Prop := vp_in (((2 : Int32) * v4) + v5) 20 ∧ vp_in v1 6 ∧ ¬ v3.toInt64 = 0 ∧ vp_in (((2 : Int32) * v4) + v5) 20 ∧ vp_in t0 6 ∧ vp_in v1 6 ∧ ¬ v3.toInt64 = 0 ∧ vp_in t0 6 ∧ K14 v1 v2 v3 (v4 + (1 : Int32)) (ds_wl (ds_wl σ 11 ((((2 : Int32) * v4) + v5).toNatClampNeg) ((σ.2 11 ((((2 : Int32) * v4) + v5).toNatClampNeg)) + ((σ.2 10 v1.toNatClampNeg) / v3.toInt64))) 10 t0.toNatClampNeg ((σ.2 10 t0.toNatClampNeg) + ((σ.2 10 v1.toNatClampNeg) / v3.toInt64)))
theorem x_X9_parts_77 (v1 : Int32) (v2 : Int32) (v3 : Int32) (v4 : Int32) (v5 : Int32) (t0 : Int32) (g6 : Option Value) (σ : ds_S) (Q : Option Value → ds_S → Prop) (K14 : Int32 → Int32 → Int32 → Int32 → ds_S → Prop) (hK14 : ∀ (v1 : Int32) (v2 : Int32) (v3 : Int32) (v4 : Int32) (g5 : Option Value) (g6 : Option Value) (σ2 : ds_S), K14 v1 v2 v3 v4 σ2 → ds_X mt_X9_parts Ym 14 [some (.ref 0), some (.int v1), some (.int v2), some (.int v3), some (.int v4), g5, g6] [] σ2 Q) (h : w_X9_parts_77 v1 v2 v3 v4 v5 t0 σ Q K14) : ds_X mt_X9_parts Ym 77 [some (.ref 0), some (.int v1), some (.int v2), some (.int v3), some (.int v4), some (.int v5), g6] [.int t0] σ Q := by
  unfold w_X9_parts_77 at h
  obtain ⟨o1, o2, o3, o4, o5, o6, o7, o8, h⟩ := h
  refine ds_blk (ls2 := [some (.ref 0), some (.int v1), some (.int v2), some (.int v3), some (.int (v4 + (1 : Int32))), some (.int v5), some (.int t0)]) (st2 := []) (σ2 := (ds_wl (ds_wl σ 11 ((((2 : Int32) * v4) + v5).toNatClampNeg) ((σ.2 11 ((((2 : Int32) * v4) + v5).toNatClampNeg)) + ((σ.2 10 v1.toNatClampNeg) / v3.toInt64))) 10 t0.toNatClampNeg ((σ.2 10 t0.toNatClampNeg) + ((σ.2 10 v1.toNatClampNeg) / v3.toInt64)))) ok_X9_parts 43 34 77 125 [ds_k Ym 0 9, ds_k Ym 11 11, vp_in (((2 : Int32) * v4) + v5) 20, ds_k Ym 0 9, ds_k Ym 10 11, vp_in v1 6, ¬ v3.toInt64 = 0, ds_k Ym 11 11, vp_in (((2 : Int32) * v4) + v5) 20, ds_k Ym 0 9, ds_k Ym 10 11, vp_in t0 6, ds_k Ym 0 9, ds_k Ym 10 11, vp_in v1 6, ¬ v3.toInt64 = 0, ds_k Ym 10 11, vp_in t0 6] rfl rfl rfl rfl ⟨⟨by decide, rfl⟩, ⟨by decide, rfl⟩, o1, ⟨by decide, rfl⟩, ⟨by decide, rfl⟩, o2, o3, ⟨by decide, rfl⟩, o4, ⟨by decide, rfl⟩, ⟨by decide, rfl⟩, o5, ⟨by decide, rfl⟩, ⟨by decide, rfl⟩, o6, o7, ⟨by decide, rfl⟩, o8, trivial⟩ ?_
  refine ds_goto (show decode mt_X9_parts.2.1 125 = .ok (.goto (-111), 3) from ds_dec (i := (125, .goto (-111), 3, 0, 0, 0, .int 0)) ok_X9_parts 77 rfl) (t := 14) (by decide) ?_
  exact hK14 v1 v2 v3 (v4 + (1 : Int32)) _ _ (ds_wl (ds_wl σ 11 ((((2 : Int32) * v4) + v5).toNatClampNeg) ((σ.2 11 ((((2 : Int32) * v4) + v5).toNatClampNeg)) + ((σ.2 10 v1.toNatClampNeg) / v3.toInt64))) 10 t0.toNatClampNeg ((σ.2 10 t0.toNatClampNeg) + ((σ.2 10 v1.toNatClampNeg) / v3.toInt64))) h
def w_X9_parts_53 (v1 : Int32) (v2 : Int32) (v3 : Int32) (v4 : Int32) (t0 : Int32) (σ : ds_S) (Q : Option Value → ds_S → Prop) (K14 : Int32 → Int32 → Int32 → Int32 → ds_S → Prop) : Prop := ((¬ t0 = 0 → vp_in v4 10 ∧ w_X9_parts_77 v1 v2 v3 v4 t0 (σ.1 1 v4.toNatClampNeg) σ Q K14) ∧ (t0 = 0 → vp_in v4 10 ∧ w_X9_parts_77 v1 v2 v3 v4 t0 (σ.1 2 v4.toNatClampNeg) σ Q K14))
theorem x_X9_parts_53 (v1 : Int32) (v2 : Int32) (v3 : Int32) (v4 : Int32) (t0 : Int32) (g5 : Option Value) (g6 : Option Value) (σ : ds_S) (Q : Option Value → ds_S → Prop) (K14 : Int32 → Int32 → Int32 → Int32 → ds_S → Prop) (hK14 : ∀ (v1 : Int32) (v2 : Int32) (v3 : Int32) (v4 : Int32) (g5 : Option Value) (g6 : Option Value) (σ2 : ds_S), K14 v1 v2 v3 v4 σ2 → ds_X mt_X9_parts Ym 14 [some (.ref 0), some (.int v1), some (.int v2), some (.int v3), some (.int v4), g5, g6] [] σ2 Q) (h : w_X9_parts_53 v1 v2 v3 v4 t0 σ Q K14) : ds_X mt_X9_parts Ym 53 [some (.ref 0), some (.int v1), some (.int v2), some (.int v3), some (.int v4), g5, g6] [.int t0] σ Q := by
  unfold w_X9_parts_53 at h
  refine ds_blk (ls2 := [some (.ref 0), some (.int v1), some (.int v2), some (.int v3), some (.int v4), some (.int t0), g6]) (st2 := [.int t0]) (σ2 := σ) ok_X9_parts 31 2 53 57 [] rfl rfl rfl rfl trivial ?_
  refine ds_if_ne (show decode mt_X9_parts.2.1 57 = .ok (.ifCond .ne 13, 3) from ds_dec (i := (57, .ifCond .ne 13, 3, 0, 0, 0, .int 0)) ok_X9_parts 33 rfl) (t := 70) (by decide) (fun hc => ?_) (fun hc => ?_)
  · replace h := h.1 hc
    obtain ⟨o1, h⟩ := h
    refine ds_blk (ls2 := [some (.ref 0), some (.int v1), some (.int v2), some (.int v3), some (.int v4), some (.int t0), g6]) (st2 := [.int (σ.1 1 v4.toNatClampNeg)]) (σ2 := σ) ok_X9_parts 39 4 70 77 [ds_k Ym 0 9, ds_k Ym 1 10, vp_in v4 10] rfl rfl rfl rfl ⟨⟨by decide, rfl⟩, ⟨by decide, rfl⟩, o1, trivial⟩ ?_
    refine x_X9_parts_77 v1 v2 v3 v4 t0 (σ.1 1 v4.toNatClampNeg) _ σ Q K14 hK14 h
  · replace h := h.2 hc
    obtain ⟨o2, h⟩ := h
    refine ds_blk (ls2 := [some (.ref 0), some (.int v1), some (.int v2), some (.int v3), some (.int v4), some (.int t0), g6]) (st2 := [.int (σ.1 2 v4.toNatClampNeg)]) (σ2 := σ) ok_X9_parts 34 4 60 67 [ds_k Ym 0 9, ds_k Ym 2 10, vp_in v4 10] rfl rfl rfl rfl ⟨⟨by decide, rfl⟩, ⟨by decide, rfl⟩, o2, trivial⟩ ?_
    refine ds_goto (show decode mt_X9_parts.2.1 67 = .ok (.goto 10, 3) from ds_dec (i := (67, .goto 10, 3, 0, 0, 0, .int 0)) ok_X9_parts 38 rfl) (t := 77) (by decide) ?_
    refine x_X9_parts_77 v1 v2 v3 v4 t0 (σ.1 2 v4.toNatClampNeg) _ σ Q K14 hK14 h
def w_X9_parts_14 : Nat → (v1 : Int32) → (v2 : Int32) → (v3 : Int32) → (v4 : Int32) → (σ : ds_S) → (Q : Option Value → ds_S → Prop) → Prop
  | 0, _, _, _, _, _, _ => False
  | f + 1, v1, v2, v3, v4, σ, Q => (((σ.1 0 7) ≤ v4 → Q none σ) ∧ (¬ (σ.1 0 7) ≤ v4 → ((v3 ≤ 0 → Q none σ) ∧ (¬ v3 ≤ 0 → ((¬ ((v2 >>> (v4 &&& 31)) &&& (1 : Int32)) = (1 : Int32) → w_X9_parts_14 f v1 v2 v3 (v4 + (1 : Int32)) σ Q) ∧ (((v2 >>> (v4 &&& 31)) &&& (1 : Int32)) = (1 : Int32) → vp_in v4 10 ∧ ((¬ (σ.1 1 v4.toNatClampNeg) = v1 → w_X9_parts_53 v1 v2 v3 v4 (1 : Int32) σ Q (fun v1_1 v2_1 v3_1 v4_1 σ1 => w_X9_parts_14 f v1_1 v2_1 v3_1 v4_1 σ1 Q)) ∧ ((σ.1 1 v4.toNatClampNeg) = v1 → w_X9_parts_53 v1 v2 v3 v4 (0 : Int32) σ Q (fun v1_2 v2_2 v3_2 v4_2 σ2 => w_X9_parts_14 f v1_2 v2_2 v3_2 v4_2 σ2 Q)))))))))
theorem x_X9_parts_14 : ∀ (f : Nat) (v1 : Int32) (v2 : Int32) (v3 : Int32) (v4 : Int32) (g5 : Option Value) (g6 : Option Value) (σ : ds_S) (Q : Option Value → ds_S → Prop), w_X9_parts_14 f v1 v2 v3 v4 σ Q → ds_X mt_X9_parts Ym 14 [some (.ref 0), some (.int v1), some (.int v2), some (.int v3), some (.int v4), g5, g6] [] σ Q := by
  intro f
  induction f with
  | zero => intro v1 v2 v3 v4 g5 g6 σ Q h; exact False.elim h
  | succ f ih =>
    intro v1 v2 v3 v4 g5 g6 σ Q h
    rw [w_X9_parts_14] at h
    refine ds_blk (ls2 := [some (.ref 0), some (.int v1), some (.int v2), some (.int v3), some (.int v4), g5, g6]) (st2 := [.int (σ.1 0 7), .int v4]) (σ2 := σ) ok_X9_parts 9 3 14 20 [ds_k Ym 0 9] rfl rfl rfl rfl ⟨⟨by decide, rfl⟩, trivial⟩ ?_
    refine ds_ic_ge (show decode mt_X9_parts.2.1 20 = .ok (.if_icmp .ge 108, 3) from ds_dec (i := (20, .if_icmp .ge 108, 3, 0, 0, 0, .int 0)) ok_X9_parts 12 rfl) (t := 128) (by decide) (fun hc => ?_) (fun hc => ?_)
    · replace h := h.1 hc
      exact ds_vret (show decode mt_X9_parts.2.1 128 = .ok (.return_, 1) from ds_dec (i := (128, .return_, 1, 0, 0, 0, .int 0)) ok_X9_parts 78 rfl) rfl h
    · replace h := h.2 hc
      refine ds_blk (ls2 := [some (.ref 0), some (.int v1), some (.int v2), some (.int v3), some (.int v4), g5, g6]) (st2 := [.int v3]) (σ2 := σ) ok_X9_parts 13 1 23 24 [] rfl rfl rfl rfl trivial ?_
      refine ds_if_le (show decode mt_X9_parts.2.1 24 = .ok (.ifCond .le 104, 3) from ds_dec (i := (24, .ifCond .le 104, 3, 0, 0, 0, .int 0)) ok_X9_parts 14 rfl) (t := 128) (by decide) (fun hc => ?_) (fun hc => ?_)
      · replace h := h.1 hc
        exact ds_vret (show decode mt_X9_parts.2.1 128 = .ok (.return_, 1) from ds_dec (i := (128, .return_, 1, 0, 0, 0, .int 0)) ok_X9_parts 78 rfl) rfl h
      · replace h := h.2 hc
        refine ds_blk (ls2 := [some (.ref 0), some (.int v1), some (.int v2), some (.int v3), some (.int v4), g5, g6]) (st2 := [.int (1 : Int32), .int ((v2 >>> (v4 &&& 31)) &&& (1 : Int32))]) (σ2 := σ) ok_X9_parts 15 6 27 34 [] rfl rfl rfl rfl trivial ?_
        refine ds_ic_ne (show decode mt_X9_parts.2.1 34 = .ok (.if_icmp .ne 88, 3) from ds_dec (i := (34, .if_icmp .ne 88, 3, 0, 0, 0, .int 0)) ok_X9_parts 21 rfl) (t := 122) (by decide) (fun hc => ?_) (fun hc => ?_)
        · replace h := h.1 hc
          refine ds_blk (ls2 := [some (.ref 0), some (.int v1), some (.int v2), some (.int v3), some (.int (v4 + (1 : Int32))), g5, g6]) (st2 := []) (σ2 := σ) ok_X9_parts 76 1 122 125 [] rfl rfl rfl rfl trivial ?_
          refine ds_goto (show decode mt_X9_parts.2.1 125 = .ok (.goto (-111), 3) from ds_dec (i := (125, .goto (-111), 3, 0, 0, 0, .int 0)) ok_X9_parts 77 rfl) (t := 14) (by decide) ?_
          exact ih v1 v2 v3 (v4 + (1 : Int32)) _ _ σ Q h
        · replace h := h.2 hc
          obtain ⟨o1, h⟩ := h
          refine ds_blk (ls2 := [some (.ref 0), some (.int v1), some (.int v2), some (.int v3), some (.int v4), g5, g6]) (st2 := [.int v1, .int (σ.1 1 v4.toNatClampNeg)]) (σ2 := σ) ok_X9_parts 22 5 37 45 [ds_k Ym 0 9, ds_k Ym 1 10, vp_in v4 10] rfl rfl rfl rfl ⟨⟨by decide, rfl⟩, ⟨by decide, rfl⟩, o1, trivial⟩ ?_
          refine ds_ic_ne (show decode mt_X9_parts.2.1 45 = .ok (.if_icmp .ne 7, 3) from ds_dec (i := (45, .if_icmp .ne 7, 3, 0, 0, 0, .int 0)) ok_X9_parts 27 rfl) (t := 52) (by decide) (fun hc => ?_) (fun hc => ?_)
          · replace h := h.1 hc
            refine ds_blk (ls2 := [some (.ref 0), some (.int v1), some (.int v2), some (.int v3), some (.int v4), g5, g6]) (st2 := [.int (1 : Int32)]) (σ2 := σ) ok_X9_parts 30 1 52 53 [] rfl rfl rfl rfl trivial ?_
            refine x_X9_parts_53 v1 v2 v3 v4 (1 : Int32) _ _ σ Q _ ?_ h
            · intro v1_1 v2_1 v3_1 v4_1 g5_1 g6_1 σ1 h
              exact ih v1_1 v2_1 v3_1 v4_1 _ _ σ1 Q h
          · replace h := h.2 hc
            refine ds_blk (ls2 := [some (.ref 0), some (.int v1), some (.int v2), some (.int v3), some (.int v4), g5, g6]) (st2 := [.int (0 : Int32)]) (σ2 := σ) ok_X9_parts 28 1 48 49 [] rfl rfl rfl rfl trivial ?_
            refine ds_goto (show decode mt_X9_parts.2.1 49 = .ok (.goto 4, 3) from ds_dec (i := (49, .goto 4, 3, 0, 0, 0, .int 0)) ok_X9_parts 29 rfl) (t := 53) (by decide) ?_
            refine x_X9_parts_53 v1 v2 v3 v4 (0 : Int32) _ _ σ Q _ ?_ h
            · intro v1_2 v2_2 v3_2 v4_2 g5_2 g6_2 σ2 h
              exact ih v1_2 v2_2 v3_2 v4_2 _ _ σ2 Q h
def w_X9_parts (a1 : Int32) (σ : ds_S) (Q : Option Value → ds_S → Prop) : Prop := ds_EI mt_X9_nextOf Ym [.ref 0, .int a1] σ (fun r1 σ1 => ∃ n, w_X9_parts_14 n a1 r1 (q_ones r1) (0 : Int32) σ1 Q)
theorem e_X9_parts (a1 : Int32) (σ : ds_S) (Q : Option Value → ds_S → Prop) (h : w_X9_parts a1 σ Q) : ds_E mt_X9_parts Ym [.ref 0, .int a1] σ Q := by
  refine ds_enter (by decide) (Nat.le_of_ble_eq_true rfl) ?_
  show ds_X mt_X9_parts Ym 0 [some (.ref 0), some (.int a1), none, none, none, none, none] [] σ Q
  unfold w_X9_parts at h
  refine ds_blk (ls2 := [some (.ref 0), some (.int a1), none, none, none, none, none]) (st2 := [.int a1, .ref 0]) (σ2 := σ) ok_X9_parts 0 2 0 2 [] rfl rfl rfl rfl trivial ?_
  refine ds_callV (z := mt_X9_nextOf) (b := 0) (as := [.int a1]) (rest := []) (show decode mt_X9_parts.2.1 2 = .ok (.invokevirtual 120, 3) from ds_dec (i := (2, .invokevirtual 120, 3, 0, 0, 894, .int 0)) ok_X9_parts 2 rfl) (ds_E.mono h (fun r σ1 hr => ?_)) ⟨zw_X9_nextOf.1, zw_X9_nextOf.2.1, zw_X9_nextOf.2.2, by decide, by decide⟩ (ds_wb_T (p := 894) (by decide +kernel)) zi_X9_nextOf zs_X9_nextOf (by decide) rfl ⟨_, rfl, rfl⟩ (Nat.le_of_ble_eq_true rfl)
  obtain ⟨r1, rfl, h⟩ := hr
  show ds_X mt_X9_parts Ym 5 [some (.ref 0), some (.int a1), none, none, none, none, none] [.int r1] σ1 Q
  refine ds_blk (ls2 := [some (.ref 0), some (.int a1), some (.int r1), none, none, none, none]) (st2 := [.int r1]) (σ2 := σ1) ok_X9_parts 3 2 5 7 [] rfl rfl rfl rfl trivial ?_
  refine ds_callS (z := mt_X9_ones) (as := [.int r1]) (rest := []) (show decode mt_X9_parts.2.1 7 = .ok (.invokestatic 128, 3) from ds_dec (i := (7, .invokestatic 128, 3, 0, 0, 912, .int 0)) ok_X9_parts 5 rfl) (ds_E.mono (sp_X9_ones r1 σ1 ) (fun r σ2 hr => ?_)) ⟨zw_X9_ones.1, zw_X9_ones.2.1, zw_X9_ones.2.2, by decide, by decide⟩ (ds_wb_T (p := 912) (by decide +kernel)) zt_X9_ones (Nat.le_of_ble_eq_true rfl)
  obtain ⟨x9, rfl, e8, e9⟩ := hr
  rw [e8, e9]
  show ds_X mt_X9_parts Ym 10 [some (.ref 0), some (.int a1), some (.int r1), none, none, none, none] [.int (q_ones r1)] σ1 Q
  refine ds_blk (ls2 := [some (.ref 0), some (.int a1), some (.int r1), some (.int (q_ones r1)), some (.int (0 : Int32)), none, none]) (st2 := []) (σ2 := σ1) ok_X9_parts 6 3 10 14 [] rfl rfl rfl rfl trivial ?_
  obtain ⟨n, h⟩ := h
  refine x_X9_parts_14 n a1 r1 (q_ones r1) (0 : Int32) _ _ σ1 Q h
def w_X9_share_62 : Nat → (v1 : Int32) → (v2 : Int32) → (v3 : Int32) → (v4 : Int32) → (v5 : Int32) → (v6 : Int32) → (σ : ds_S) → (Q : Option Value → ds_S → Prop) → Prop
  | 0, _, _, _, _, _, _, _, _ => False
  | f + 1, v1, v2, v3, v4, v5, v6, σ, Q => (((6 : Int32) ≤ v6 → ds_EV mt_X9_goDown Ym [.ref 0] σ (fun σ1 => vp_in (((2 : Int32) * v3) + v4) 20 ∧ 0 ≤ (σ1.2 11 ((((2 : Int32) * v3) + v4).toNatClampNeg)) ∧ 0 < (σ1.2 0 16) ∧ Q (some (.long (q_low (σ1.2 11 ((((2 : Int32) * v3) + v4).toNatClampNeg)) (σ1.2 0 16) v5))) σ1)) ∧ (¬ (6 : Int32) ≤ v6 → ((¬ v6 = v1 → vp_in v6 6 ∧ w_X9_share_62 f v1 v2 v3 v4 v5 (v6 + (1 : Int32)) (ds_wl σ 10 v6.toNatClampNeg (0 : Int64)) Q) ∧ (v6 = v1 → ((v1 = v2 → vp_in v6 6 ∧ w_X9_share_62 f v1 v2 v3 v4 v5 (v6 + (1 : Int32)) (ds_wl σ 10 v6.toNatClampNeg (0 : Int64)) Q) ∧ (¬ v1 = v2 → vp_in v6 6 ∧ w_X9_share_62 f v1 v2 v3 v4 v5 (v6 + (1 : Int32)) (ds_wl σ 10 v6.toNatClampNeg (1 : Int64)) Q))))))
theorem x_X9_share_62 : ∀ (f : Nat) (v1 : Int32) (v2 : Int32) (v3 : Int32) (v4 : Int32) (v5 : Int32) (v6 : Int32) (σ : ds_S) (Q : Option Value → ds_S → Prop), w_X9_share_62 f v1 v2 v3 v4 v5 v6 σ Q → ds_X mt_X9_share Ym 62 [some (.ref 0), some (.int v1), some (.int v2), some (.int v3), some (.int v4), some (.int v5), some (.int v6)] [] σ Q := by
  intro f
  induction f with
  | zero => intro v1 v2 v3 v4 v5 v6 σ Q h; exact False.elim h
  | succ f ih =>
    intro v1 v2 v3 v4 v5 v6 σ Q h
    rw [w_X9_share_62] at h
    refine ds_blk (ls2 := [some (.ref 0), some (.int v1), some (.int v2), some (.int v3), some (.int v4), some (.int v5), some (.int v6)]) (st2 := [.int (6 : Int32), .int v6]) (σ2 := σ) ok_X9_share 33 2 62 66 [] rfl rfl rfl rfl trivial ?_
    refine ds_ic_ge (show decode mt_X9_share.2.1 66 = .ok (.if_icmp .ge 32, 3) from ds_dec (i := (66, .if_icmp .ge 32, 3, 0, 0, 0, .int 0)) ok_X9_share 35 rfl) (t := 98) (by decide) (fun hc => ?_) (fun hc => ?_)
    · replace h := h.1 hc
      refine ds_blk (ls2 := [some (.ref 0), some (.int v1), some (.int v2), some (.int v3), some (.int v4), some (.int v5), some (.int v6)]) (st2 := [.ref 0]) (σ2 := σ) ok_X9_share 51 1 98 99 [] rfl rfl rfl rfl trivial ?_
      refine ds_callV (z := mt_X9_goDown) (b := 0) (as := []) (rest := []) (show decode mt_X9_share.2.1 99 = .ok (.invokevirtual 142, 3) from ds_dec (i := (99, .invokevirtual 142, 3, 0, 0, 908, .int 0)) ok_X9_share 52 rfl) (ds_E.mono h (fun r σ1 hr => ?_)) ⟨zw_X9_goDown.1, zw_X9_goDown.2.1, zw_X9_goDown.2.2, by decide, by decide⟩ (ds_wb_T (p := 908) (by decide +kernel)) zi_X9_goDown zs_X9_goDown (by decide) rfl ⟨_, rfl, rfl⟩ (Nat.le_of_ble_eq_true rfl)
      obtain ⟨rfl, h⟩ := hr
      show ds_X mt_X9_share Ym 102 [some (.ref 0), some (.int v1), some (.int v2), some (.int v3), some (.int v4), some (.int v5), some (.int v6)] [] σ1 Q
      obtain ⟨o1, h⟩ := h
      refine ds_blk (ls2 := [some (.ref 0), some (.int v1), some (.int v2), some (.int v3), some (.int v4), some (.int v5), some (.int v6)]) (st2 := [.int v5, .long (σ1.2 0 16), .long (σ1.2 11 ((((2 : Int32) * v3) + v4).toNatClampNeg))]) (σ2 := σ1) ok_X9_share 53 11 102 119 [ds_k Ym 0 9, ds_k Ym 11 11, vp_in (((2 : Int32) * v3) + v4) 20, ds_k Ym 0 9] rfl rfl rfl rfl ⟨⟨by decide, rfl⟩, ⟨by decide, rfl⟩, o1, ⟨by decide, rfl⟩, trivial⟩ ?_
      obtain ⟨o2, o3, h⟩ := h
      refine ds_callS (z := mt_X9_lowest) (as := [.long (σ1.2 11 ((((2 : Int32) * v3) + v4).toNatClampNeg)), .long (σ1.2 0 16), .int v5]) (rest := []) (show decode mt_X9_share.2.1 119 = .ok (.invokestatic 145, 3) from ds_dec (i := (119, .invokestatic 145, 3, 0, 0, 919, .int 0)) ok_X9_share 64 rfl) (ds_E.mono (sp_X9_lowest (σ1.2 11 ((((2 : Int32) * v3) + v4).toNatClampNeg)) (σ1.2 0 16) v5 σ1 o2 o3) (fun r σ2 hr => ?_)) ⟨zw_X9_lowest.1, zw_X9_lowest.2.1, zw_X9_lowest.2.2, by decide, by decide⟩ (ds_wb_T (p := 919) (by decide +kernel)) zt_X9_lowest (Nat.le_of_ble_eq_true rfl)
      obtain ⟨x9, rfl, e8, e9⟩ := hr
      rw [e8, e9]
      show ds_X mt_X9_share Ym 122 [some (.ref 0), some (.int v1), some (.int v2), some (.int v3), some (.int v4), some (.int v5), some (.int v6)] [.long (q_low (σ1.2 11 ((((2 : Int32) * v3) + v4).toNatClampNeg)) (σ1.2 0 16) v5)] σ1 Q
      exact ds_lret (show decode mt_X9_share.2.1 122 = .ok (.lreturn, 1) from ds_dec (i := (122, .lreturn, 1, 0, 0, 0, .int 0)) ok_X9_share 65 rfl) rfl h
    · replace h := h.2 hc
      refine ds_blk (ls2 := [some (.ref 0), some (.int v1), some (.int v2), some (.int v3), some (.int v4), some (.int v5), some (.int v6)]) (st2 := [.int v1, .int v6, .int v6, .ref 10]) (σ2 := σ) ok_X9_share 36 5 69 78 [ds_k Ym 0 9] rfl rfl rfl rfl ⟨⟨by decide, rfl⟩, trivial⟩ ?_
      refine ds_ic_ne (show decode mt_X9_share.2.1 78 = .ok (.if_icmp .ne 12, 3) from ds_dec (i := (78, .if_icmp .ne 12, 3, 0, 0, 0, .int 0)) ok_X9_share 41 rfl) (t := 90) (by decide) (fun hc => ?_) (fun hc => ?_)
      · replace h := h.1 hc
        obtain ⟨o4, h⟩ := h
        refine ds_blk (ls2 := [some (.ref 0), some (.int v1), some (.int v2), some (.int v3), some (.int v4), some (.int v5), some (.int (v6 + (1 : Int32)))]) (st2 := []) (σ2 := (ds_wl σ 10 v6.toNatClampNeg (0 : Int64))) ok_X9_share 47 3 90 95 [ds_k Ym 10 11, vp_in v6 6] rfl rfl rfl rfl ⟨⟨by decide, rfl⟩, o4, trivial⟩ ?_
        refine ds_goto (show decode mt_X9_share.2.1 95 = .ok (.goto (-33), 3) from ds_dec (i := (95, .goto (-33), 3, 0, 0, 0, .int 0)) ok_X9_share 50 rfl) (t := 62) (by decide) ?_
        exact ih v1 v2 v3 v4 v5 (v6 + (1 : Int32)) (ds_wl σ 10 v6.toNatClampNeg (0 : Int64)) Q h
      · replace h := h.2 hc
        refine ds_blk (ls2 := [some (.ref 0), some (.int v1), some (.int v2), some (.int v3), some (.int v4), some (.int v5), some (.int v6)]) (st2 := [.int v2, .int v1, .int v6, .ref 10]) (σ2 := σ) ok_X9_share 42 2 81 83 [] rfl rfl rfl rfl trivial ?_
        refine ds_ic_eq (show decode mt_X9_share.2.1 83 = .ok (.if_icmp .eq 7, 3) from ds_dec (i := (83, .if_icmp .eq 7, 3, 0, 0, 0, .int 0)) ok_X9_share 44 rfl) (t := 90) (by decide) (fun hc => ?_) (fun hc => ?_)
        · replace h := h.1 hc
          obtain ⟨o5, h⟩ := h
          refine ds_blk (ls2 := [some (.ref 0), some (.int v1), some (.int v2), some (.int v3), some (.int v4), some (.int v5), some (.int (v6 + (1 : Int32)))]) (st2 := []) (σ2 := (ds_wl σ 10 v6.toNatClampNeg (0 : Int64))) ok_X9_share 47 3 90 95 [ds_k Ym 10 11, vp_in v6 6] rfl rfl rfl rfl ⟨⟨by decide, rfl⟩, o5, trivial⟩ ?_
          refine ds_goto (show decode mt_X9_share.2.1 95 = .ok (.goto (-33), 3) from ds_dec (i := (95, .goto (-33), 3, 0, 0, 0, .int 0)) ok_X9_share 50 rfl) (t := 62) (by decide) ?_
          exact ih v1 v2 v3 v4 v5 (v6 + (1 : Int32)) (ds_wl σ 10 v6.toNatClampNeg (0 : Int64)) Q h
        · replace h := h.2 hc
          refine ds_blk (ls2 := [some (.ref 0), some (.int v1), some (.int v2), some (.int v3), some (.int v4), some (.int v5), some (.int v6)]) (st2 := [.long (1 : Int64), .int v6, .ref 10]) (σ2 := σ) ok_X9_share 45 1 86 87 [] rfl rfl rfl rfl trivial ?_
          refine ds_goto (show decode mt_X9_share.2.1 87 = .ok (.goto 4, 3) from ds_dec (i := (87, .goto 4, 3, 0, 0, 0, .int 0)) ok_X9_share 46 rfl) (t := 91) (by decide) ?_
          obtain ⟨o6, h⟩ := h
          refine ds_blk (ls2 := [some (.ref 0), some (.int v1), some (.int v2), some (.int v3), some (.int v4), some (.int v5), some (.int (v6 + (1 : Int32)))]) (st2 := []) (σ2 := (ds_wl σ 10 v6.toNatClampNeg (1 : Int64))) ok_X9_share 48 2 91 95 [ds_k Ym 10 11, vp_in v6 6] rfl rfl rfl rfl ⟨⟨by decide, rfl⟩, o6, trivial⟩ ?_
          refine ds_goto (show decode mt_X9_share.2.1 95 = .ok (.goto (-33), 3) from ds_dec (i := (95, .goto (-33), 3, 0, 0, 0, .int 0)) ok_X9_share 50 rfl) (t := 62) (by decide) ?_
          exact ih v1 v2 v3 v4 v5 (v6 + (1 : Int32)) (ds_wl σ 10 v6.toNatClampNeg (1 : Int64)) Q h
def w_X9_share (a1 : Int32) (a2 : Int32) (a3 : Int32) (a4 : Int32) (a5 : Int32) (σ : ds_S) (Q : Option Value → ds_S → Prop) : Prop := (((q_bx a1 (σ.1 0 0)) = 0 → Q (some (.long (-1000000000000000001 : Int64))) σ) ∧ (¬ (q_bx a1 (σ.1 0 0)) = 0 → (((q_bx a2 (σ.1 0 0)) = 0 → Q (some (.long (-1000000000000000001 : Int64))) σ) ∧ (¬ (q_bx a2 (σ.1 0 0)) = 0 → ((¬ (q_bx a3 (σ.1 0 7)) = 0 → (((q_in a4.toInt64 (0 : Int64) (1 : Int64)) = 0 → Q (some (.long (-1000000000000000002 : Int64))) σ) ∧ (¬ (q_in a4.toInt64 (0 : Int64) (1 : Int64)) = 0 → ((¬ (q_in a5.toInt64 (0 : Int64) (1 : Int64)) = 0 → ds_EV mt_X9_findFar Ym [.ref 0, .int a2] σ (fun σ6 => ∃ n, w_X9_share_62 n a1 a2 a3 a4 a5 (0 : Int32) σ6 Q)) ∧ ((q_in a5.toInt64 (0 : Int64) (1 : Int64)) = 0 → Q (some (.long (-1000000000000000002 : Int64))) σ))))) ∧ ((q_bx a3 (σ.1 0 7)) = 0 → Q (some (.long (-1000000000000000001 : Int64))) σ))))))
theorem e_X9_share (a1 : Int32) (a2 : Int32) (a3 : Int32) (a4 : Int32) (a5 : Int32) (σ : ds_S) (Q : Option Value → ds_S → Prop) (h : w_X9_share a1 a2 a3 a4 a5 σ Q) : ds_E mt_X9_share Ym [.ref 0, .int a1, .int a2, .int a3, .int a4, .int a5] σ Q := by
  refine ds_enter (by decide) (Nat.le_of_ble_eq_true rfl) ?_
  show ds_X mt_X9_share Ym 0 [some (.ref 0), some (.int a1), some (.int a2), some (.int a3), some (.int a4), some (.int a5), none] [] σ Q
  unfold w_X9_share at h
  refine ds_blk (ls2 := [some (.ref 0), some (.int a1), some (.int a2), some (.int a3), some (.int a4), some (.int a5), none]) (st2 := [.int a1, .ref 0]) (σ2 := σ) ok_X9_share 0 2 0 2 [] rfl rfl rfl rfl trivial ?_
  refine ds_callV (z := mt_X9_isBox) (b := 0) (as := [.int a1]) (rest := []) (show decode mt_X9_share.2.1 2 = .ok (.invokevirtual 88, 3) from ds_dec (i := (2, .invokevirtual 88, 3, 0, 0, 843, .int 0)) ok_X9_share 2 rfl) (ds_E.mono (sp_X9_isBox a1 σ ) (fun r σ1 hr => ?_)) ⟨zw_X9_isBox.1, zw_X9_isBox.2.1, zw_X9_isBox.2.2, by decide, by decide⟩ (ds_wb_T (p := 843) (by decide +kernel)) zi_X9_isBox zs_X9_isBox (by decide) rfl ⟨_, rfl, rfl⟩ (Nat.le_of_ble_eq_true rfl)
  obtain ⟨x9, rfl, e8, e9⟩ := hr
  rw [e8, e9]
  show ds_X mt_X9_share Ym 5 [some (.ref 0), some (.int a1), some (.int a2), some (.int a3), some (.int a4), some (.int a5), none] [.int (q_bx a1 (σ.1 0 0))] σ Q
  refine ds_if_eq (show decode mt_X9_share.2.1 5 = .ok (.ifCond .eq 19, 3) from ds_dec (i := (5, .ifCond .eq 19, 3, 0, 0, 0, .int 0)) ok_X9_share 3 rfl) (t := 24) (by decide) (fun hc => ?_) (fun hc => ?_)
  · replace h := h.1 hc
    refine ds_blk (ls2 := [some (.ref 0), some (.int a1), some (.int a2), some (.int a3), some (.int a4), some (.int a5), none]) (st2 := [.long (-1000000000000000001 : Int64)]) (σ2 := σ) ok_X9_share 12 1 24 27 [] rfl rfl rfl rfl trivial ?_
    exact ds_lret (show decode mt_X9_share.2.1 27 = .ok (.lreturn, 1) from ds_dec (i := (27, .lreturn, 1, 0, 0, 0, .int 0)) ok_X9_share 13 rfl) rfl h
  · replace h := h.2 hc
    refine ds_blk (ls2 := [some (.ref 0), some (.int a1), some (.int a2), some (.int a3), some (.int a4), some (.int a5), none]) (st2 := [.int a2, .ref 0]) (σ2 := σ) ok_X9_share 4 2 8 10 [] rfl rfl rfl rfl trivial ?_
    refine ds_callV (z := mt_X9_isBox) (b := 0) (as := [.int a2]) (rest := []) (show decode mt_X9_share.2.1 10 = .ok (.invokevirtual 88, 3) from ds_dec (i := (10, .invokevirtual 88, 3, 0, 0, 843, .int 0)) ok_X9_share 6 rfl) (ds_E.mono (sp_X9_isBox a2 σ ) (fun r σ2 hr => ?_)) ⟨zw_X9_isBox.1, zw_X9_isBox.2.1, zw_X9_isBox.2.2, by decide, by decide⟩ (ds_wb_T (p := 843) (by decide +kernel)) zi_X9_isBox zs_X9_isBox (by decide) rfl ⟨_, rfl, rfl⟩ (Nat.le_of_ble_eq_true rfl)
    obtain ⟨x9, rfl, e8, e9⟩ := hr
    rw [e8, e9]
    show ds_X mt_X9_share Ym 13 [some (.ref 0), some (.int a1), some (.int a2), some (.int a3), some (.int a4), some (.int a5), none] [.int (q_bx a2 (σ.1 0 0))] σ Q
    refine ds_if_eq (show decode mt_X9_share.2.1 13 = .ok (.ifCond .eq 11, 3) from ds_dec (i := (13, .ifCond .eq 11, 3, 0, 0, 0, .int 0)) ok_X9_share 7 rfl) (t := 24) (by decide) (fun hc => ?_) (fun hc => ?_)
    · replace h := h.1 hc
      refine ds_blk (ls2 := [some (.ref 0), some (.int a1), some (.int a2), some (.int a3), some (.int a4), some (.int a5), none]) (st2 := [.long (-1000000000000000001 : Int64)]) (σ2 := σ) ok_X9_share 12 1 24 27 [] rfl rfl rfl rfl trivial ?_
      exact ds_lret (show decode mt_X9_share.2.1 27 = .ok (.lreturn, 1) from ds_dec (i := (27, .lreturn, 1, 0, 0, 0, .int 0)) ok_X9_share 13 rfl) rfl h
    · replace h := h.2 hc
      refine ds_blk (ls2 := [some (.ref 0), some (.int a1), some (.int a2), some (.int a3), some (.int a4), some (.int a5), none]) (st2 := [.int a3, .ref 0]) (σ2 := σ) ok_X9_share 8 2 16 18 [] rfl rfl rfl rfl trivial ?_
      refine ds_callV (z := mt_X9_isLine) (b := 0) (as := [.int a3]) (rest := []) (show decode mt_X9_share.2.1 18 = .ok (.invokevirtual 96, 3) from ds_dec (i := (18, .invokevirtual 96, 3, 0, 0, 853, .int 0)) ok_X9_share 10 rfl) (ds_E.mono (sp_X9_isLine a3 σ ) (fun r σ3 hr => ?_)) ⟨zw_X9_isLine.1, zw_X9_isLine.2.1, zw_X9_isLine.2.2, by decide, by decide⟩ (ds_wb_T (p := 853) (by decide +kernel)) zi_X9_isLine zs_X9_isLine (by decide) rfl ⟨_, rfl, rfl⟩ (Nat.le_of_ble_eq_true rfl)
      obtain ⟨x9, rfl, e8, e9⟩ := hr
      rw [e8, e9]
      show ds_X mt_X9_share Ym 21 [some (.ref 0), some (.int a1), some (.int a2), some (.int a3), some (.int a4), some (.int a5), none] [.int (q_bx a3 (σ.1 0 7))] σ Q
      refine ds_if_ne (show decode mt_X9_share.2.1 21 = .ok (.ifCond .ne 7, 3) from ds_dec (i := (21, .ifCond .ne 7, 3, 0, 0, 0, .int 0)) ok_X9_share 11 rfl) (t := 28) (by decide) (fun hc => ?_) (fun hc => ?_)
      · replace h := h.1 hc
        refine ds_blk (ls2 := [some (.ref 0), some (.int a1), some (.int a2), some (.int a3), some (.int a4), some (.int a5), none]) (st2 := [.long (1 : Int64), .long (0 : Int64), .long a4.toInt64]) (σ2 := σ) ok_X9_share 14 4 28 33 [] rfl rfl rfl rfl trivial ?_
        refine ds_callS (z := mt_X9_in) (as := [.long a4.toInt64, .long (0 : Int64), .long (1 : Int64)]) (rest := []) (show decode mt_X9_share.2.1 33 = .ok (.invokestatic 73, 3) from ds_dec (i := (33, .invokestatic 73, 3, 0, 0, 836, .int 0)) ok_X9_share 18 rfl) (ds_E.mono (sp_X9_in a4.toInt64 (0 : Int64) (1 : Int64) σ ) (fun r σ4 hr => ?_)) ⟨zw_X9_in.1, zw_X9_in.2.1, zw_X9_in.2.2, by decide, by decide⟩ (ds_wb_T (p := 836) (by decide +kernel)) zt_X9_in (Nat.le_of_ble_eq_true rfl)
        obtain ⟨x9, rfl, e8, e9⟩ := hr
        rw [e8, e9]
        show ds_X mt_X9_share Ym 36 [some (.ref 0), some (.int a1), some (.int a2), some (.int a3), some (.int a4), some (.int a5), none] [.int (q_in a4.toInt64 (0 : Int64) (1 : Int64))] σ Q
        refine ds_if_eq (show decode mt_X9_share.2.1 36 = .ok (.ifCond .eq 14, 3) from ds_dec (i := (36, .ifCond .eq 14, 3, 0, 0, 0, .int 0)) ok_X9_share 19 rfl) (t := 50) (by decide) (fun hc => ?_) (fun hc => ?_)
        · replace h := h.1 hc
          refine ds_blk (ls2 := [some (.ref 0), some (.int a1), some (.int a2), some (.int a3), some (.int a4), some (.int a5), none]) (st2 := [.long (-1000000000000000002 : Int64)]) (σ2 := σ) ok_X9_share 26 1 50 53 [] rfl rfl rfl rfl trivial ?_
          exact ds_lret (show decode mt_X9_share.2.1 53 = .ok (.lreturn, 1) from ds_dec (i := (53, .lreturn, 1, 0, 0, 0, .int 0)) ok_X9_share 27 rfl) rfl h
        · replace h := h.2 hc
          refine ds_blk (ls2 := [some (.ref 0), some (.int a1), some (.int a2), some (.int a3), some (.int a4), some (.int a5), none]) (st2 := [.long (1 : Int64), .long (0 : Int64), .long a5.toInt64]) (σ2 := σ) ok_X9_share 20 4 39 44 [] rfl rfl rfl rfl trivial ?_
          refine ds_callS (z := mt_X9_in) (as := [.long a5.toInt64, .long (0 : Int64), .long (1 : Int64)]) (rest := []) (show decode mt_X9_share.2.1 44 = .ok (.invokestatic 73, 3) from ds_dec (i := (44, .invokestatic 73, 3, 0, 0, 836, .int 0)) ok_X9_share 24 rfl) (ds_E.mono (sp_X9_in a5.toInt64 (0 : Int64) (1 : Int64) σ ) (fun r σ5 hr => ?_)) ⟨zw_X9_in.1, zw_X9_in.2.1, zw_X9_in.2.2, by decide, by decide⟩ (ds_wb_T (p := 836) (by decide +kernel)) zt_X9_in (Nat.le_of_ble_eq_true rfl)
          obtain ⟨x9, rfl, e8, e9⟩ := hr
          rw [e8, e9]
          show ds_X mt_X9_share Ym 47 [some (.ref 0), some (.int a1), some (.int a2), some (.int a3), some (.int a4), some (.int a5), none] [.int (q_in a5.toInt64 (0 : Int64) (1 : Int64))] σ Q
          refine ds_if_ne (show decode mt_X9_share.2.1 47 = .ok (.ifCond .ne 7, 3) from ds_dec (i := (47, .ifCond .ne 7, 3, 0, 0, 0, .int 0)) ok_X9_share 25 rfl) (t := 54) (by decide) (fun hc => ?_) (fun hc => ?_)
          · replace h := h.1 hc
            refine ds_blk (ls2 := [some (.ref 0), some (.int a1), some (.int a2), some (.int a3), some (.int a4), some (.int a5), none]) (st2 := [.int a2, .ref 0]) (σ2 := σ) ok_X9_share 28 2 54 56 [] rfl rfl rfl rfl trivial ?_
            refine ds_callV (z := mt_X9_findFar) (b := 0) (as := [.int a2]) (rest := []) (show decode mt_X9_share.2.1 56 = .ok (.invokevirtual 112, 3) from ds_dec (i := (56, .invokevirtual 112, 3, 0, 0, 881, .int 0)) ok_X9_share 30 rfl) (ds_E.mono h (fun r σ6 hr => ?_)) ⟨zw_X9_findFar.1, zw_X9_findFar.2.1, zw_X9_findFar.2.2, by decide, by decide⟩ (ds_wb_T (p := 881) (by decide +kernel)) zi_X9_findFar zs_X9_findFar (by decide) rfl ⟨_, rfl, rfl⟩ (Nat.le_of_ble_eq_true rfl)
            obtain ⟨rfl, h⟩ := hr
            show ds_X mt_X9_share Ym 59 [some (.ref 0), some (.int a1), some (.int a2), some (.int a3), some (.int a4), some (.int a5), none] [] σ6 Q
            refine ds_blk (ls2 := [some (.ref 0), some (.int a1), some (.int a2), some (.int a3), some (.int a4), some (.int a5), some (.int (0 : Int32))]) (st2 := []) (σ2 := σ6) ok_X9_share 31 2 59 62 [] rfl rfl rfl rfl trivial ?_
            obtain ⟨n, h⟩ := h
            refine x_X9_share_62 n a1 a2 a3 a4 a5 (0 : Int32) σ6 Q h
          · replace h := h.2 hc
            refine ds_blk (ls2 := [some (.ref 0), some (.int a1), some (.int a2), some (.int a3), some (.int a4), some (.int a5), none]) (st2 := [.long (-1000000000000000002 : Int64)]) (σ2 := σ) ok_X9_share 26 1 50 53 [] rfl rfl rfl rfl trivial ?_
            exact ds_lret (show decode mt_X9_share.2.1 53 = .ok (.lreturn, 1) from ds_dec (i := (53, .lreturn, 1, 0, 0, 0, .int 0)) ok_X9_share 27 rfl) rfl h
      · replace h := h.2 hc
        refine ds_blk (ls2 := [some (.ref 0), some (.int a1), some (.int a2), some (.int a3), some (.int a4), some (.int a5), none]) (st2 := [.long (-1000000000000000001 : Int64)]) (σ2 := σ) ok_X9_share 12 1 24 27 [] rfl rfl rfl rfl trivial ?_
        exact ds_lret (show decode mt_X9_share.2.1 27 = .ok (.lreturn, 1) from ds_dec (i := (27, .lreturn, 1, 0, 0, 0, .int 0)) ok_X9_share 13 rfl) rfl h
def w_X9_findOn_2 : Nat → (v1 : Int32) → (v2 : Int32) → (σ : ds_S) → (Q : Option Value → ds_S → Prop) → (K28 : Int32 → ds_S → Prop) → Prop
  | 0, _, _, _, _, _ => False
  | f + 1, v1, v2, σ, Q, K28 => (((20 : Int32) ≤ v2 → K28 v1 σ) ∧ (¬ (20 : Int32) ≤ v2 → vp_in v2 20 ∧ vp_in v2 20 ∧ w_X9_findOn_2 f v1 (v2 + (1 : Int32)) (ds_wl (ds_wl σ 12 v2.toNatClampNeg (0 : Int64)) 13 v2.toNatClampNeg (1 : Int64)) Q K28))
theorem x_X9_findOn_2 : ∀ (f : Nat) (v1 : Int32) (v2 : Int32) (g3 : Option Value) (g4 : Option Value) (g5 : Option Value) (g6 : Option Value) (g7 : Option Value) (g8 : Option Value) (g9 : Option Value) (σ : ds_S) (Q : Option Value → ds_S → Prop) (K28 : Int32 → ds_S → Prop) (hK28 : ∀ (v1 : Int32) (g2 : Option Value) (g3 : Option Value) (g4 : Option Value) (g5 : Option Value) (g6 : Option Value) (g7 : Option Value) (g8 : Option Value) (g9 : Option Value) (σ2 : ds_S), K28 v1 σ2 → ds_X mt_X9_findOn Ym 28 [some (.ref 0), some (.int v1), g2, g3, g4, g5, g6, g7, g8, g9] [] σ2 Q), w_X9_findOn_2 f v1 v2 σ Q K28 → ds_X mt_X9_findOn Ym 2 [some (.ref 0), some (.int v1), some (.int v2), g3, g4, g5, g6, g7, g8, g9] [] σ Q := by
  intro f
  induction f with
  | zero => intro v1 v2 g3 g4 g5 g6 g7 g8 g9 σ Q K28 hK28 h; exact False.elim h
  | succ f ih =>
    intro v1 v2 g3 g4 g5 g6 g7 g8 g9 σ Q K28 hK28 h
    rw [w_X9_findOn_2] at h
    refine ds_blk (ls2 := [some (.ref 0), some (.int v1), some (.int v2), g3, g4, g5, g6, g7, g8, g9]) (st2 := [.int (20 : Int32), .int v2]) (σ2 := σ) ok_X9_findOn 2 2 2 5 [] rfl rfl rfl rfl trivial ?_
    refine ds_ic_ge (show decode mt_X9_findOn.2.1 5 = .ok (.if_icmp .ge 23, 3) from ds_dec (i := (5, .if_icmp .ge 23, 3, 0, 0, 0, .int 0)) ok_X9_findOn 4 rfl) (t := 28) (by decide) (fun hc => ?_) (fun hc => ?_)
    · replace h := h.1 hc
      exact hK28 v1 _ _ _ _ _ _ _ _ σ h
    · replace h := h.2 hc
      obtain ⟨o1, o2, h⟩ := h
      refine ds_blk (ls2 := [some (.ref 0), some (.int v1), some (.int (v2 + (1 : Int32))), g3, g4, g5, g6, g7, g8, g9]) (st2 := []) (σ2 := (ds_wl (ds_wl σ 12 v2.toNatClampNeg (0 : Int64)) 13 v2.toNatClampNeg (1 : Int64))) ok_X9_findOn 5 11 8 25 [ds_k Ym 0 9, ds_k Ym 12 11, vp_in v2 20, ds_k Ym 0 9, ds_k Ym 13 11, vp_in v2 20] rfl rfl rfl rfl ⟨⟨by decide, rfl⟩, ⟨by decide, rfl⟩, o1, ⟨by decide, rfl⟩, ⟨by decide, rfl⟩, o2, trivial⟩ ?_
      refine ds_goto (show decode mt_X9_findOn.2.1 25 = .ok (.goto (-23), 3) from ds_dec (i := (25, .goto (-23), 3, 0, 0, 0, .int 0)) ok_X9_findOn 16 rfl) (t := 2) (by decide) ?_
      exact ih v1 (v2 + (1 : Int32)) _ _ _ _ _ _ _ (ds_wl (ds_wl σ 12 v2.toNatClampNeg (0 : Int64)) 13 v2.toNatClampNeg (1 : Int64)) Q K28 hK28 h
def w_X9_findOn_45 : Nat → (v1 : Int32) → (v2 : Int32) → (v3 : Int32) → (σ : ds_S) → (Q : Option Value → ds_S → Prop) → (K71 : Int32 → Int32 → ds_S → Prop) → Prop
  | 0, _, _, _, _, _, _ => False
  | f + 1, v1, v2, v3, σ, Q, K71 => (((6 : Int32) ≤ v3 → K71 v1 v2 σ) ∧ (¬ (6 : Int32) ≤ v3 → vp_in (((36 : Int32) * v1) + ((6 : Int32) * v3) + v2) 108 ∧ vp_in v3 6 ∧ w_X9_findOn_45 f v1 v2 (v3 + (1 : Int32)) (ds_wl σ 10 v3.toNatClampNeg ((σ.1 7 ((((36 : Int32) * v1) + ((6 : Int32) * v3) + v2).toNatClampNeg)).toInt64)) Q K71))
theorem x_X9_findOn_45 : ∀ (f : Nat) (v1 : Int32) (v2 : Int32) (v3 : Int32) (g4 : Option Value) (g5 : Option Value) (g6 : Option Value) (g7 : Option Value) (g8 : Option Value) (g9 : Option Value) (σ : ds_S) (Q : Option Value → ds_S → Prop) (K71 : Int32 → Int32 → ds_S → Prop) (hK71 : ∀ (v1 : Int32) (v2 : Int32) (g3 : Option Value) (g4 : Option Value) (g5 : Option Value) (g6 : Option Value) (g7 : Option Value) (g8 : Option Value) (g9 : Option Value) (σ2 : ds_S), K71 v1 v2 σ2 → ds_X mt_X9_findOn Ym 71 [some (.ref 0), some (.int v1), some (.int v2), g3, g4, g5, g6, g7, g8, g9] [] σ2 Q), w_X9_findOn_45 f v1 v2 v3 σ Q K71 → ds_X mt_X9_findOn Ym 45 [some (.ref 0), some (.int v1), some (.int v2), some (.int v3), g4, g5, g6, g7, g8, g9] [] σ Q := by
  intro f
  induction f with
  | zero => intro v1 v2 v3 g4 g5 g6 g7 g8 g9 σ Q K71 hK71 h; exact False.elim h
  | succ f ih =>
    intro v1 v2 v3 g4 g5 g6 g7 g8 g9 σ Q K71 hK71 h
    rw [w_X9_findOn_45] at h
    refine ds_blk (ls2 := [some (.ref 0), some (.int v1), some (.int v2), some (.int v3), g4, g5, g6, g7, g8, g9]) (st2 := [.int (6 : Int32), .int v3]) (σ2 := σ) ok_X9_findOn 28 2 45 48 [] rfl rfl rfl rfl trivial ?_
    refine ds_ic_ge (show decode mt_X9_findOn.2.1 48 = .ok (.if_icmp .ge 23, 3) from ds_dec (i := (48, .if_icmp .ge 23, 3, 0, 0, 0, .int 0)) ok_X9_findOn 30 rfl) (t := 71) (by decide) (fun hc => ?_) (fun hc => ?_)
    · replace h := h.1 hc
      exact hK71 v1 v2 _ _ _ _ _ _ _ σ h
    · replace h := h.2 hc
      refine ds_blk (ls2 := [some (.ref 0), some (.int v1), some (.int v2), some (.int v3), g4, g5, g6, g7, g8, g9]) (st2 := [.int v2, .int v3, .int v1, .ref 0, .int v3, .ref 10]) (σ2 := σ) ok_X9_findOn 31 7 51 60 [ds_k Ym 0 9] rfl rfl rfl rfl ⟨⟨by decide, rfl⟩, trivial⟩ ?_
      obtain ⟨o1, h⟩ := h
      refine ds_callV (z := mt_X9_loadOf) (b := 0) (as := [.int v1, .int v3, .int v2]) (rest := [.int v3, .ref 10]) (show decode mt_X9_findOn.2.1 60 = .ok (.invokevirtual 104, 3) from ds_dec (i := (60, .invokevirtual 104, 3, 0, 0, 873, .int 0)) ok_X9_findOn 38 rfl) (ds_E.mono (sp_X9_loadOf v1 v3 v2 σ o1) (fun r σ1 hr => ?_)) ⟨zw_X9_loadOf.1, zw_X9_loadOf.2.1, zw_X9_loadOf.2.2, by decide, by decide⟩ (ds_wb_T (p := 873) (by decide +kernel)) zi_X9_loadOf zs_X9_loadOf (by decide) rfl ⟨_, rfl, rfl⟩ (Nat.le_of_ble_eq_true rfl)
      obtain ⟨x9, rfl, e8, e9⟩ := hr
      rw [e8, e9]
      show ds_X mt_X9_findOn Ym 63 [some (.ref 0), some (.int v1), some (.int v2), some (.int v3), g4, g5, g6, g7, g8, g9] [.int (σ.1 7 ((((36 : Int32) * v1) + ((6 : Int32) * v3) + v2).toNatClampNeg)), .int v3, .ref 10] σ Q
      obtain ⟨o2, h⟩ := h
      refine ds_blk (ls2 := [some (.ref 0), some (.int v1), some (.int v2), some (.int (v3 + (1 : Int32))), g4, g5, g6, g7, g8, g9]) (st2 := []) (σ2 := (ds_wl σ 10 v3.toNatClampNeg ((σ.1 7 ((((36 : Int32) * v1) + ((6 : Int32) * v3) + v2).toNatClampNeg)).toInt64))) ok_X9_findOn 39 3 63 68 [ds_k Ym 10 11, vp_in v3 6] rfl rfl rfl rfl ⟨⟨by decide, rfl⟩, o2, trivial⟩ ?_
      refine ds_goto (show decode mt_X9_findOn.2.1 68 = .ok (.goto (-23), 3) from ds_dec (i := (68, .goto (-23), 3, 0, 0, 0, .int 0)) ok_X9_findOn 42 rfl) (t := 45) (by decide) ?_
      exact ih v1 v2 (v3 + (1 : Int32)) _ _ _ _ _ _ (ds_wl σ 10 v3.toNatClampNeg ((σ.1 7 ((((36 : Int32) * v1) + ((6 : Int32) * v3) + v2).toNatClampNeg)).toInt64)) Q K71 hK71 h
def w_X9_findOn_77 : Nat → (v1 : Int32) → (v2 : Int32) → (v3 : Int32) → (σ : ds_S) → (Q : Option Value → ds_S → Prop) → (K185 : Int32 → Int32 → ds_S → Prop) → Prop
  | 0, _, _, _, _, _, _ => False
  | f + 1, v1, v2, v3, σ, Q, K185 => ((((2 : Int32) * (σ.1 0 7)) ≤ v3 → K185 v1 v2 σ) ∧ (¬ ((2 : Int32) * (σ.1 0 7)) ≤ v3 → vp_in v3 20 ∧ 0 ≤ (σ.2 13 v3.toNatClampNeg) ∧ 0 ≤ (σ.2 0 16) ∧ vp_in v3 20 ∧ ¬ (q_gcd (σ.2 13 v3.toNatClampNeg) (σ.2 0 16)) = 0 ∧ vp_in v3 20 ∧ ¬ (q_gcd (σ.2 13 v3.toNatClampNeg) (σ.2 0 16)) = 0 ∧ vp_in v3 20 ∧ vp_in v3 20 ∧ ¬ (q_gcd (σ.2 13 v3.toNatClampNeg) (σ.2 0 16)) = 0 ∧ 0 ≤ (((σ.2 12 v3.toNatClampNeg) * ((σ.2 0 16) / (q_gcd (σ.2 13 v3.toNatClampNeg) (σ.2 0 16)))) + ((σ.2 11 v3.toNatClampNeg) * ((σ.2 13 v3.toNatClampNeg) / (q_gcd (σ.2 13 v3.toNatClampNeg) (σ.2 0 16))))) ∧ 0 < (((σ.2 13 v3.toNatClampNeg) / (q_gcd (σ.2 13 v3.toNatClampNeg) (σ.2 0 16))) * (σ.2 0 16)) ∧ vp_in v3 20 ∧ 0 ≤ (((σ.2 12 v3.toNatClampNeg) * ((σ.2 0 16) / (q_gcd (σ.2 13 v3.toNatClampNeg) (σ.2 0 16)))) + ((σ.2 11 v3.toNatClampNeg) * ((σ.2 13 v3.toNatClampNeg) / (q_gcd (σ.2 13 v3.toNatClampNeg) (σ.2 0 16))))) ∧ 0 < (((σ.2 13 v3.toNatClampNeg) / (q_gcd (σ.2 13 v3.toNatClampNeg) (σ.2 0 16))) * (σ.2 0 16)) ∧ vp_in v3 20 ∧ w_X9_findOn_77 f v1 v2 (v3 + (1 : Int32)) (ds_wl (ds_wl σ 12 v3.toNatClampNeg (q_low (((σ.2 12 v3.toNatClampNeg) * ((σ.2 0 16) / (q_gcd (σ.2 13 v3.toNatClampNeg) (σ.2 0 16)))) + ((σ.2 11 v3.toNatClampNeg) * ((σ.2 13 v3.toNatClampNeg) / (q_gcd (σ.2 13 v3.toNatClampNeg) (σ.2 0 16))))) (((σ.2 13 v3.toNatClampNeg) / (q_gcd (σ.2 13 v3.toNatClampNeg) (σ.2 0 16))) * (σ.2 0 16)) (0 : Int32))) 13 v3.toNatClampNeg (q_low (((σ.2 12 v3.toNatClampNeg) * ((σ.2 0 16) / (q_gcd (σ.2 13 v3.toNatClampNeg) (σ.2 0 16)))) + ((σ.2 11 v3.toNatClampNeg) * ((σ.2 13 v3.toNatClampNeg) / (q_gcd (σ.2 13 v3.toNatClampNeg) (σ.2 0 16))))) (((σ.2 13 v3.toNatClampNeg) / (q_gcd (σ.2 13 v3.toNatClampNeg) (σ.2 0 16))) * (σ.2 0 16)) (1 : Int32))) Q K185))
theorem x_X9_findOn_77 : ∀ (f : Nat) (v1 : Int32) (v2 : Int32) (v3 : Int32) (g4 : Option Value) (g5 : Option Value) (g6 : Option Value) (g7 : Option Value) (g8 : Option Value) (g9 : Option Value) (σ : ds_S) (Q : Option Value → ds_S → Prop) (K185 : Int32 → Int32 → ds_S → Prop) (hK185 : ∀ (v1 : Int32) (v2 : Int32) (g3 : Option Value) (g4 : Option Value) (g5 : Option Value) (g6 : Option Value) (g7 : Option Value) (g8 : Option Value) (g9 : Option Value) (σ2 : ds_S), K185 v1 v2 σ2 → ds_X mt_X9_findOn Ym 185 [some (.ref 0), some (.int v1), some (.int v2), g3, g4, g5, g6, g7, g8, g9] [] σ2 Q), w_X9_findOn_77 f v1 v2 v3 σ Q K185 → ds_X mt_X9_findOn Ym 77 [some (.ref 0), some (.int v1), some (.int v2), some (.int v3), g4, g5, g6, g7, g8, g9] [] σ Q := by
  intro f
  induction f with
  | zero => intro v1 v2 v3 g4 g5 g6 g7 g8 g9 σ Q K185 hK185 h; exact False.elim h
  | succ f ih =>
    intro v1 v2 v3 g4 g5 g6 g7 g8 g9 σ Q K185 hK185 h
    rw [w_X9_findOn_77] at h
    refine ds_blk (ls2 := [some (.ref 0), some (.int v1), some (.int v2), some (.int v3), g4, g5, g6, g7, g8, g9]) (st2 := [.int ((2 : Int32) * (σ.1 0 7)), .int v3]) (σ2 := σ) ok_X9_findOn 47 5 77 84 [ds_k Ym 0 9] rfl rfl rfl rfl ⟨⟨by decide, rfl⟩, trivial⟩ ?_
    refine ds_ic_ge (show decode mt_X9_findOn.2.1 84 = .ok (.if_icmp .ge 101, 3) from ds_dec (i := (84, .if_icmp .ge 101, 3, 0, 0, 0, .int 0)) ok_X9_findOn 52 rfl) (t := 185) (by decide) (fun hc => ?_) (fun hc => ?_)
    · replace h := h.1 hc
      exact hK185 v1 v2 _ _ _ _ _ _ _ σ h
    · replace h := h.2 hc
      obtain ⟨o1, h⟩ := h
      refine ds_blk (ls2 := [some (.ref 0), some (.int v1), some (.int v2), some (.int v3), g4, g5, g6, g7, g8, g9]) (st2 := [.long (σ.2 0 16), .long (σ.2 13 v3.toNatClampNeg)]) (σ2 := σ) ok_X9_findOn 53 6 87 97 [ds_k Ym 0 9, ds_k Ym 13 11, vp_in v3 20, ds_k Ym 0 9] rfl rfl rfl rfl ⟨⟨by decide, rfl⟩, ⟨by decide, rfl⟩, o1, ⟨by decide, rfl⟩, trivial⟩ ?_
      obtain ⟨o2, o3, h⟩ := h
      refine ds_callS (z := mt_X9_common) (as := [.long (σ.2 13 v3.toNatClampNeg), .long (σ.2 0 16)]) (rest := []) (show decode mt_X9_findOn.2.1 97 = .ok (.invokestatic 134, 3) from ds_dec (i := (97, .invokestatic 134, 3, 0, 0, 922, .int 0)) ok_X9_findOn 59 rfl) (ds_E.mono (sp_X9_common (σ.2 13 v3.toNatClampNeg) (σ.2 0 16) σ o2 o3) (fun r σ1 hr => ?_)) ⟨zw_X9_common.1, zw_X9_common.2.1, zw_X9_common.2.2, by decide, by decide⟩ (ds_wb_T (p := 922) (by decide +kernel)) zt_X9_common (Nat.le_of_ble_eq_true rfl)
      obtain ⟨x9, rfl, e8, e9⟩ := hr
      rw [e8, e9]
      show ds_X mt_X9_findOn Ym 100 [some (.ref 0), some (.int v1), some (.int v2), some (.int v3), g4, g5, g6, g7, g8, g9] [.long (q_gcd (σ.2 13 v3.toNatClampNeg) (σ.2 0 16))] σ Q
      obtain ⟨o4, o5, o6, o7, o8, o9, o10, h⟩ := h
      refine ds_blk (ls2 := [some (.ref 0), some (.int v1), some (.int v2), some (.int v3), some (.long (q_gcd (σ.2 13 v3.toNatClampNeg) (σ.2 0 16))), none, some (.long (((σ.2 13 v3.toNatClampNeg) / (q_gcd (σ.2 13 v3.toNatClampNeg) (σ.2 0 16))) * (σ.2 0 16))), none, some (.long (((σ.2 12 v3.toNatClampNeg) * ((σ.2 0 16) / (q_gcd (σ.2 13 v3.toNatClampNeg) (σ.2 0 16)))) + ((σ.2 11 v3.toNatClampNeg) * ((σ.2 13 v3.toNatClampNeg) / (q_gcd (σ.2 13 v3.toNatClampNeg) (σ.2 0 16)))))), none]) (st2 := [.int (0 : Int32), .long (((σ.2 13 v3.toNatClampNeg) / (q_gcd (σ.2 13 v3.toNatClampNeg) (σ.2 0 16))) * (σ.2 0 16)), .long (((σ.2 12 v3.toNatClampNeg) * ((σ.2 0 16) / (q_gcd (σ.2 13 v3.toNatClampNeg) (σ.2 0 16)))) + ((σ.2 11 v3.toNatClampNeg) * ((σ.2 13 v3.toNatClampNeg) / (q_gcd (σ.2 13 v3.toNatClampNeg) (σ.2 0 16))))), .int v3, .ref 12]) (σ2 := σ) ok_X9_findOn 60 39 100 161 [ds_k Ym 0 9, ds_k Ym 13 11, vp_in v3 20, ¬ (q_gcd (σ.2 13 v3.toNatClampNeg) (σ.2 0 16)) = 0, ds_k Ym 0 9, ds_k Ym 0 9, ds_k Ym 12 11, vp_in v3 20, ds_k Ym 0 9, ¬ (q_gcd (σ.2 13 v3.toNatClampNeg) (σ.2 0 16)) = 0, ds_k Ym 0 9, ds_k Ym 11 11, vp_in v3 20, ds_k Ym 0 9, ds_k Ym 13 11, vp_in v3 20, ¬ (q_gcd (σ.2 13 v3.toNatClampNeg) (σ.2 0 16)) = 0, ds_k Ym 0 9] rfl rfl rfl rfl ⟨⟨by decide, rfl⟩, ⟨by decide, rfl⟩, o4, o5, ⟨by decide, rfl⟩, ⟨by decide, rfl⟩, ⟨by decide, rfl⟩, o6, ⟨by decide, rfl⟩, o7, ⟨by decide, rfl⟩, ⟨by decide, rfl⟩, o8, ⟨by decide, rfl⟩, ⟨by decide, rfl⟩, o9, o10, ⟨by decide, rfl⟩, trivial⟩ ?_
      obtain ⟨o11, o12, h⟩ := h
      refine ds_callS (z := mt_X9_lowest) (as := [.long (((σ.2 12 v3.toNatClampNeg) * ((σ.2 0 16) / (q_gcd (σ.2 13 v3.toNatClampNeg) (σ.2 0 16)))) + ((σ.2 11 v3.toNatClampNeg) * ((σ.2 13 v3.toNatClampNeg) / (q_gcd (σ.2 13 v3.toNatClampNeg) (σ.2 0 16))))), .long (((σ.2 13 v3.toNatClampNeg) / (q_gcd (σ.2 13 v3.toNatClampNeg) (σ.2 0 16))) * (σ.2 0 16)), .int (0 : Int32)]) (rest := [.int v3, .ref 12]) (show decode mt_X9_findOn.2.1 161 = .ok (.invokestatic 145, 3) from ds_dec (i := (161, .invokestatic 145, 3, 0, 0, 919, .int 0)) ok_X9_findOn 99 rfl) (ds_E.mono (sp_X9_lowest (((σ.2 12 v3.toNatClampNeg) * ((σ.2 0 16) / (q_gcd (σ.2 13 v3.toNatClampNeg) (σ.2 0 16)))) + ((σ.2 11 v3.toNatClampNeg) * ((σ.2 13 v3.toNatClampNeg) / (q_gcd (σ.2 13 v3.toNatClampNeg) (σ.2 0 16))))) (((σ.2 13 v3.toNatClampNeg) / (q_gcd (σ.2 13 v3.toNatClampNeg) (σ.2 0 16))) * (σ.2 0 16)) (0 : Int32) σ o11 o12) (fun r σ2 hr => ?_)) ⟨zw_X9_lowest.1, zw_X9_lowest.2.1, zw_X9_lowest.2.2, by decide, by decide⟩ (ds_wb_T (p := 919) (by decide +kernel)) zt_X9_lowest (Nat.le_of_ble_eq_true rfl)
      obtain ⟨x9, rfl, e8, e9⟩ := hr
      rw [e8, e9]
      show ds_X mt_X9_findOn Ym 164 [some (.ref 0), some (.int v1), some (.int v2), some (.int v3), some (.long (q_gcd (σ.2 13 v3.toNatClampNeg) (σ.2 0 16))), none, some (.long (((σ.2 13 v3.toNatClampNeg) / (q_gcd (σ.2 13 v3.toNatClampNeg) (σ.2 0 16))) * (σ.2 0 16))), none, some (.long (((σ.2 12 v3.toNatClampNeg) * ((σ.2 0 16) / (q_gcd (σ.2 13 v3.toNatClampNeg) (σ.2 0 16)))) + ((σ.2 11 v3.toNatClampNeg) * ((σ.2 13 v3.toNatClampNeg) / (q_gcd (σ.2 13 v3.toNatClampNeg) (σ.2 0 16)))))), none] [.long (q_low (((σ.2 12 v3.toNatClampNeg) * ((σ.2 0 16) / (q_gcd (σ.2 13 v3.toNatClampNeg) (σ.2 0 16)))) + ((σ.2 11 v3.toNatClampNeg) * ((σ.2 13 v3.toNatClampNeg) / (q_gcd (σ.2 13 v3.toNatClampNeg) (σ.2 0 16))))) (((σ.2 13 v3.toNatClampNeg) / (q_gcd (σ.2 13 v3.toNatClampNeg) (σ.2 0 16))) * (σ.2 0 16)) (0 : Int32)), .int v3, .ref 12] σ Q
      obtain ⟨o13, h⟩ := h
      refine ds_blk (ls2 := [some (.ref 0), some (.int v1), some (.int v2), some (.int v3), some (.long (q_gcd (σ.2 13 v3.toNatClampNeg) (σ.2 0 16))), none, some (.long (((σ.2 13 v3.toNatClampNeg) / (q_gcd (σ.2 13 v3.toNatClampNeg) (σ.2 0 16))) * (σ.2 0 16))), none, some (.long (((σ.2 12 v3.toNatClampNeg) * ((σ.2 0 16) / (q_gcd (σ.2 13 v3.toNatClampNeg) (σ.2 0 16)))) + ((σ.2 11 v3.toNatClampNeg) * ((σ.2 13 v3.toNatClampNeg) / (q_gcd (σ.2 13 v3.toNatClampNeg) (σ.2 0 16)))))), none]) (st2 := [.int (1 : Int32), .long (((σ.2 13 v3.toNatClampNeg) / (q_gcd (σ.2 13 v3.toNatClampNeg) (σ.2 0 16))) * (σ.2 0 16)), .long (((σ.2 12 v3.toNatClampNeg) * ((σ.2 0 16) / (q_gcd (σ.2 13 v3.toNatClampNeg) (σ.2 0 16)))) + ((σ.2 11 v3.toNatClampNeg) * ((σ.2 13 v3.toNatClampNeg) / (q_gcd (σ.2 13 v3.toNatClampNeg) (σ.2 0 16))))), .int v3, .ref 13]) (σ2 := (ds_wl σ 12 v3.toNatClampNeg (q_low (((σ.2 12 v3.toNatClampNeg) * ((σ.2 0 16) / (q_gcd (σ.2 13 v3.toNatClampNeg) (σ.2 0 16)))) + ((σ.2 11 v3.toNatClampNeg) * ((σ.2 13 v3.toNatClampNeg) / (q_gcd (σ.2 13 v3.toNatClampNeg) (σ.2 0 16))))) (((σ.2 13 v3.toNatClampNeg) / (q_gcd (σ.2 13 v3.toNatClampNeg) (σ.2 0 16))) * (σ.2 0 16)) (0 : Int32)))) ok_X9_findOn 100 7 164 175 [ds_k Ym 12 11, vp_in v3 20, ds_k Ym 0 9] rfl rfl rfl rfl ⟨⟨by decide, rfl⟩, o13, ⟨by decide, rfl⟩, trivial⟩ ?_
      obtain ⟨o14, o15, h⟩ := h
      refine ds_callS (z := mt_X9_lowest) (as := [.long (((σ.2 12 v3.toNatClampNeg) * ((σ.2 0 16) / (q_gcd (σ.2 13 v3.toNatClampNeg) (σ.2 0 16)))) + ((σ.2 11 v3.toNatClampNeg) * ((σ.2 13 v3.toNatClampNeg) / (q_gcd (σ.2 13 v3.toNatClampNeg) (σ.2 0 16))))), .long (((σ.2 13 v3.toNatClampNeg) / (q_gcd (σ.2 13 v3.toNatClampNeg) (σ.2 0 16))) * (σ.2 0 16)), .int (1 : Int32)]) (rest := [.int v3, .ref 13]) (show decode mt_X9_findOn.2.1 175 = .ok (.invokestatic 145, 3) from ds_dec (i := (175, .invokestatic 145, 3, 0, 0, 919, .int 0)) ok_X9_findOn 107 rfl) (ds_E.mono (sp_X9_lowest (((σ.2 12 v3.toNatClampNeg) * ((σ.2 0 16) / (q_gcd (σ.2 13 v3.toNatClampNeg) (σ.2 0 16)))) + ((σ.2 11 v3.toNatClampNeg) * ((σ.2 13 v3.toNatClampNeg) / (q_gcd (σ.2 13 v3.toNatClampNeg) (σ.2 0 16))))) (((σ.2 13 v3.toNatClampNeg) / (q_gcd (σ.2 13 v3.toNatClampNeg) (σ.2 0 16))) * (σ.2 0 16)) (1 : Int32) (ds_wl σ 12 v3.toNatClampNeg (q_low (((σ.2 12 v3.toNatClampNeg) * ((σ.2 0 16) / (q_gcd (σ.2 13 v3.toNatClampNeg) (σ.2 0 16)))) + ((σ.2 11 v3.toNatClampNeg) * ((σ.2 13 v3.toNatClampNeg) / (q_gcd (σ.2 13 v3.toNatClampNeg) (σ.2 0 16))))) (((σ.2 13 v3.toNatClampNeg) / (q_gcd (σ.2 13 v3.toNatClampNeg) (σ.2 0 16))) * (σ.2 0 16)) (0 : Int32))) o14 o15) (fun r σ3 hr => ?_)) ⟨zw_X9_lowest.1, zw_X9_lowest.2.1, zw_X9_lowest.2.2, by decide, by decide⟩ (ds_wb_T (p := 919) (by decide +kernel)) zt_X9_lowest (Nat.le_of_ble_eq_true rfl)
      obtain ⟨x9, rfl, e8, e9⟩ := hr
      rw [e8, e9]
      show ds_X mt_X9_findOn Ym 178 [some (.ref 0), some (.int v1), some (.int v2), some (.int v3), some (.long (q_gcd (σ.2 13 v3.toNatClampNeg) (σ.2 0 16))), none, some (.long (((σ.2 13 v3.toNatClampNeg) / (q_gcd (σ.2 13 v3.toNatClampNeg) (σ.2 0 16))) * (σ.2 0 16))), none, some (.long (((σ.2 12 v3.toNatClampNeg) * ((σ.2 0 16) / (q_gcd (σ.2 13 v3.toNatClampNeg) (σ.2 0 16)))) + ((σ.2 11 v3.toNatClampNeg) * ((σ.2 13 v3.toNatClampNeg) / (q_gcd (σ.2 13 v3.toNatClampNeg) (σ.2 0 16)))))), none] [.long (q_low (((σ.2 12 v3.toNatClampNeg) * ((σ.2 0 16) / (q_gcd (σ.2 13 v3.toNatClampNeg) (σ.2 0 16)))) + ((σ.2 11 v3.toNatClampNeg) * ((σ.2 13 v3.toNatClampNeg) / (q_gcd (σ.2 13 v3.toNatClampNeg) (σ.2 0 16))))) (((σ.2 13 v3.toNatClampNeg) / (q_gcd (σ.2 13 v3.toNatClampNeg) (σ.2 0 16))) * (σ.2 0 16)) (1 : Int32)), .int v3, .ref 13] (ds_wl σ 12 v3.toNatClampNeg (q_low (((σ.2 12 v3.toNatClampNeg) * ((σ.2 0 16) / (q_gcd (σ.2 13 v3.toNatClampNeg) (σ.2 0 16)))) + ((σ.2 11 v3.toNatClampNeg) * ((σ.2 13 v3.toNatClampNeg) / (q_gcd (σ.2 13 v3.toNatClampNeg) (σ.2 0 16))))) (((σ.2 13 v3.toNatClampNeg) / (q_gcd (σ.2 13 v3.toNatClampNeg) (σ.2 0 16))) * (σ.2 0 16)) (0 : Int32))) Q
      obtain ⟨o16, h⟩ := h
      refine ds_blk (ls2 := [some (.ref 0), some (.int v1), some (.int v2), some (.int (v3 + (1 : Int32))), some (.long (q_gcd (σ.2 13 v3.toNatClampNeg) (σ.2 0 16))), none, some (.long (((σ.2 13 v3.toNatClampNeg) / (q_gcd (σ.2 13 v3.toNatClampNeg) (σ.2 0 16))) * (σ.2 0 16))), none, some (.long (((σ.2 12 v3.toNatClampNeg) * ((σ.2 0 16) / (q_gcd (σ.2 13 v3.toNatClampNeg) (σ.2 0 16)))) + ((σ.2 11 v3.toNatClampNeg) * ((σ.2 13 v3.toNatClampNeg) / (q_gcd (σ.2 13 v3.toNatClampNeg) (σ.2 0 16)))))), none]) (st2 := []) (σ2 := (ds_wl (ds_wl σ 12 v3.toNatClampNeg (q_low (((σ.2 12 v3.toNatClampNeg) * ((σ.2 0 16) / (q_gcd (σ.2 13 v3.toNatClampNeg) (σ.2 0 16)))) + ((σ.2 11 v3.toNatClampNeg) * ((σ.2 13 v3.toNatClampNeg) / (q_gcd (σ.2 13 v3.toNatClampNeg) (σ.2 0 16))))) (((σ.2 13 v3.toNatClampNeg) / (q_gcd (σ.2 13 v3.toNatClampNeg) (σ.2 0 16))) * (σ.2 0 16)) (0 : Int32))) 13 v3.toNatClampNeg (q_low (((σ.2 12 v3.toNatClampNeg) * ((σ.2 0 16) / (q_gcd (σ.2 13 v3.toNatClampNeg) (σ.2 0 16)))) + ((σ.2 11 v3.toNatClampNeg) * ((σ.2 13 v3.toNatClampNeg) / (q_gcd (σ.2 13 v3.toNatClampNeg) (σ.2 0 16))))) (((σ.2 13 v3.toNatClampNeg) / (q_gcd (σ.2 13 v3.toNatClampNeg) (σ.2 0 16))) * (σ.2 0 16)) (1 : Int32)))) ok_X9_findOn 108 2 178 182 [ds_k Ym 13 11, vp_in v3 20] rfl rfl rfl rfl ⟨⟨by decide, rfl⟩, o16, trivial⟩ ?_
      refine ds_goto (show decode mt_X9_findOn.2.1 182 = .ok (.goto (-105), 3) from ds_dec (i := (182, .goto (-105), 3, 0, 0, 0, .int 0)) ok_X9_findOn 110 rfl) (t := 77) (by decide) ?_
      exact ih v1 v2 (v3 + (1 : Int32)) _ _ _ _ _ _ (ds_wl (ds_wl σ 12 v3.toNatClampNeg (q_low (((σ.2 12 v3.toNatClampNeg) * ((σ.2 0 16) / (q_gcd (σ.2 13 v3.toNatClampNeg) (σ.2 0 16)))) + ((σ.2 11 v3.toNatClampNeg) * ((σ.2 13 v3.toNatClampNeg) / (q_gcd (σ.2 13 v3.toNatClampNeg) (σ.2 0 16))))) (((σ.2 13 v3.toNatClampNeg) / (q_gcd (σ.2 13 v3.toNatClampNeg) (σ.2 0 16))) * (σ.2 0 16)) (0 : Int32))) 13 v3.toNatClampNeg (q_low (((σ.2 12 v3.toNatClampNeg) * ((σ.2 0 16) / (q_gcd (σ.2 13 v3.toNatClampNeg) (σ.2 0 16)))) + ((σ.2 11 v3.toNatClampNeg) * ((σ.2 13 v3.toNatClampNeg) / (q_gcd (σ.2 13 v3.toNatClampNeg) (σ.2 0 16))))) (((σ.2 13 v3.toNatClampNeg) / (q_gcd (σ.2 13 v3.toNatClampNeg) (σ.2 0 16))) * (σ.2 0 16)) (1 : Int32))) Q K185 hK185 h
def w_X9_findOn_30 : Nat → (v1 : Int32) → (v2 : Int32) → (σ : ds_S) → (Q : Option Value → ds_S → Prop) → Prop
  | 0, _, _, _, _ => False
  | f + 1, v1, v2, σ, Q => (((σ.1 0 0) ≤ v2 → Q none σ) ∧ (¬ (σ.1 0 0) ≤ v2 → ds_EV mt_X9_findFar Ym [.ref 0, .int v2] σ (fun σ1 => ∃ n, w_X9_findOn_45 n v1 v2 (0 : Int32) σ1 Q (fun v1_2 v2_2 σ2 => ds_EV mt_X9_goDown Ym [.ref 0] σ2 (fun σ3 => ∃ n, w_X9_findOn_77 n v1_2 v2_2 (0 : Int32) σ3 Q (fun v1_4 v2_4 σ4 => w_X9_findOn_30 f v1_4 (v2_4 + (1 : Int32)) σ4 Q))))))
theorem x_X9_findOn_30 : ∀ (f : Nat) (v1 : Int32) (v2 : Int32) (g3 : Option Value) (g4 : Option Value) (g5 : Option Value) (g6 : Option Value) (g7 : Option Value) (g8 : Option Value) (g9 : Option Value) (σ : ds_S) (Q : Option Value → ds_S → Prop), w_X9_findOn_30 f v1 v2 σ Q → ds_X mt_X9_findOn Ym 30 [some (.ref 0), some (.int v1), some (.int v2), g3, g4, g5, g6, g7, g8, g9] [] σ Q := by
  intro f
  induction f with
  | zero => intro v1 v2 g3 g4 g5 g6 g7 g8 g9 σ Q h; exact False.elim h
  | succ f ih =>
    intro v1 v2 g3 g4 g5 g6 g7 g8 g9 σ Q h
    rw [w_X9_findOn_30] at h
    refine ds_blk (ls2 := [some (.ref 0), some (.int v1), some (.int v2), g3, g4, g5, g6, g7, g8, g9]) (st2 := [.int (σ.1 0 0), .int v2]) (σ2 := σ) ok_X9_findOn 19 3 30 35 [ds_k Ym 0 9] rfl rfl rfl rfl ⟨⟨by decide, rfl⟩, trivial⟩ ?_
    refine ds_ic_ge (show decode mt_X9_findOn.2.1 35 = .ok (.if_icmp .ge 156, 3) from ds_dec (i := (35, .if_icmp .ge 156, 3, 0, 0, 0, .int 0)) ok_X9_findOn 22 rfl) (t := 191) (by decide) (fun hc => ?_) (fun hc => ?_)
    · replace h := h.1 hc
      exact ds_vret (show decode mt_X9_findOn.2.1 191 = .ok (.return_, 1) from ds_dec (i := (191, .return_, 1, 0, 0, 0, .int 0)) ok_X9_findOn 113 rfl) rfl h
    · replace h := h.2 hc
      refine ds_blk (ls2 := [some (.ref 0), some (.int v1), some (.int v2), g3, g4, g5, g6, g7, g8, g9]) (st2 := [.int v2, .ref 0]) (σ2 := σ) ok_X9_findOn 23 2 38 40 [] rfl rfl rfl rfl trivial ?_
      refine ds_callV (z := mt_X9_findFar) (b := 0) (as := [.int v2]) (rest := []) (show decode mt_X9_findOn.2.1 40 = .ok (.invokevirtual 112, 3) from ds_dec (i := (40, .invokevirtual 112, 3, 0, 0, 881, .int 0)) ok_X9_findOn 25 rfl) (ds_E.mono h (fun r σ1 hr => ?_)) ⟨zw_X9_findFar.1, zw_X9_findFar.2.1, zw_X9_findFar.2.2, by decide, by decide⟩ (ds_wb_T (p := 881) (by decide +kernel)) zi_X9_findFar zs_X9_findFar (by decide) rfl ⟨_, rfl, rfl⟩ (Nat.le_of_ble_eq_true rfl)
      obtain ⟨rfl, h⟩ := hr
      show ds_X mt_X9_findOn Ym 43 [some (.ref 0), some (.int v1), some (.int v2), g3, g4, g5, g6, g7, g8, g9] [] σ1 Q
      refine ds_blk (ls2 := [some (.ref 0), some (.int v1), some (.int v2), some (.int (0 : Int32)), g4, g5, g6, g7, g8, g9]) (st2 := []) (σ2 := σ1) ok_X9_findOn 26 2 43 45 [] rfl rfl rfl rfl trivial ?_
      obtain ⟨n, h⟩ := h
      refine x_X9_findOn_45 n v1 v2 (0 : Int32) _ _ _ _ _ _ σ1 Q _ ?_ h
      · intro v1_2 v2_2 g3_2 g4_2 g5_2 g6_2 g7_2 g8_2 g9_2 σ2 h
        refine ds_blk (ls2 := [some (.ref 0), some (.int v1_2), some (.int v2_2), g3_2, g4_2, g5_2, g6_2, g7_2, g8_2, g9_2]) (st2 := [.ref 0]) (σ2 := σ2) ok_X9_findOn 43 1 71 72 [] rfl rfl rfl rfl trivial ?_
        refine ds_callV (z := mt_X9_goDown) (b := 0) (as := []) (rest := []) (show decode mt_X9_findOn.2.1 72 = .ok (.invokevirtual 142, 3) from ds_dec (i := (72, .invokevirtual 142, 3, 0, 0, 908, .int 0)) ok_X9_findOn 44 rfl) (ds_E.mono h (fun r σ3 hr => ?_)) ⟨zw_X9_goDown.1, zw_X9_goDown.2.1, zw_X9_goDown.2.2, by decide, by decide⟩ (ds_wb_T (p := 908) (by decide +kernel)) zi_X9_goDown zs_X9_goDown (by decide) rfl ⟨_, rfl, rfl⟩ (Nat.le_of_ble_eq_true rfl)
        obtain ⟨rfl, h⟩ := hr
        show ds_X mt_X9_findOn Ym 75 [some (.ref 0), some (.int v1_2), some (.int v2_2), g3_2, g4_2, g5_2, g6_2, g7_2, g8_2, g9_2] [] σ3 Q
        refine ds_blk (ls2 := [some (.ref 0), some (.int v1_2), some (.int v2_2), some (.int (0 : Int32)), g4_2, g5_2, g6_2, g7_2, g8_2, g9_2]) (st2 := []) (σ2 := σ3) ok_X9_findOn 45 2 75 77 [] rfl rfl rfl rfl trivial ?_
        obtain ⟨n, h⟩ := h
        refine x_X9_findOn_77 n v1_2 v2_2 (0 : Int32) _ _ _ _ _ _ σ3 Q _ ?_ h
        · intro v1_4 v2_4 g3_4 g4_4 g5_4 g6_4 g7_4 g8_4 g9_4 σ4 h
          refine ds_blk (ls2 := [some (.ref 0), some (.int v1_4), some (.int (v2_4 + (1 : Int32))), g3_4, g4_4, g5_4, g6_4, g7_4, g8_4, g9_4]) (st2 := []) (σ2 := σ4) ok_X9_findOn 111 1 185 188 [] rfl rfl rfl rfl trivial ?_
          refine ds_goto (show decode mt_X9_findOn.2.1 188 = .ok (.goto (-158), 3) from ds_dec (i := (188, .goto (-158), 3, 0, 0, 0, .int 0)) ok_X9_findOn 112 rfl) (t := 30) (by decide) ?_
          exact ih v1_4 (v2_4 + (1 : Int32)) _ _ _ _ _ _ _ σ4 Q h
def w_X9_findOn (a1 : Int32) (σ : ds_S) (Q : Option Value → ds_S → Prop) : Prop := ∃ n, w_X9_findOn_2 n a1 (0 : Int32) σ Q (fun v1_1 σ1 => ∃ n, w_X9_findOn_30 n v1_1 (0 : Int32) σ1 Q)
theorem e_X9_findOn (a1 : Int32) (σ : ds_S) (Q : Option Value → ds_S → Prop) (h : w_X9_findOn a1 σ Q) : ds_E mt_X9_findOn Ym [.ref 0, .int a1] σ Q := by
  refine ds_enter (by decide) (Nat.le_of_ble_eq_true rfl) ?_
  show ds_X mt_X9_findOn Ym 0 [some (.ref 0), some (.int a1), none, none, none, none, none, none, none, none] [] σ Q
  unfold w_X9_findOn at h
  refine ds_blk (ls2 := [some (.ref 0), some (.int a1), some (.int (0 : Int32)), none, none, none, none, none, none, none]) (st2 := []) (σ2 := σ) ok_X9_findOn 0 2 0 2 [] rfl rfl rfl rfl trivial ?_
  obtain ⟨n, h⟩ := h
  refine x_X9_findOn_2 n a1 (0 : Int32) _ _ _ _ _ _ _ σ Q _ ?_ h
  · intro v1_1 g2_1 g3_1 g4_1 g5_1 g6_1 g7_1 g8_1 g9_1 σ1 h
    refine ds_blk (ls2 := [some (.ref 0), some (.int v1_1), some (.int (0 : Int32)), g3_1, g4_1, g5_1, g6_1, g7_1, g8_1, g9_1]) (st2 := []) (σ2 := σ1) ok_X9_findOn 17 2 28 30 [] rfl rfl rfl rfl trivial ?_
    obtain ⟨n, h⟩ := h
    refine x_X9_findOn_30 n v1_1 (0 : Int32) _ _ _ _ _ _ _ σ1 Q h
def w_X9_on (a1 : Int32) (a2 : Int32) (a3 : Int32) (a4 : Int32) (σ : ds_S) (Q : Option Value → ds_S → Prop) : Prop := (((q_bx a1 3) = 0 → Q (some (.long (-1000000000000000001 : Int64))) σ) ∧ (¬ (q_bx a1 3) = 0 → ((¬ (q_bx a2 (σ.1 0 7)) = 0 → (((q_in a3.toInt64 (0 : Int64) (1 : Int64)) = 0 → Q (some (.long (-1000000000000000002 : Int64))) σ) ∧ (¬ (q_in a3.toInt64 (0 : Int64) (1 : Int64)) = 0 → ((¬ (q_in a4.toInt64 (0 : Int64) (1 : Int64)) = 0 → ds_EV mt_X9_findOn Ym [.ref 0, .int a1] σ (fun σ5 => ((¬ a4 = 0 → vp_in (((2 : Int32) * a2) + a3) 20 ∧ Q (some (.long (σ5.2 13 ((((2 : Int32) * a2) + a3).toNatClampNeg)))) σ5) ∧ (a4 = 0 → vp_in (((2 : Int32) * a2) + a3) 20 ∧ Q (some (.long (σ5.2 12 ((((2 : Int32) * a2) + a3).toNatClampNeg)))) σ5)))) ∧ ((q_in a4.toInt64 (0 : Int64) (1 : Int64)) = 0 → Q (some (.long (-1000000000000000002 : Int64))) σ))))) ∧ ((q_bx a2 (σ.1 0 7)) = 0 → Q (some (.long (-1000000000000000001 : Int64))) σ))))
theorem e_X9_on (a1 : Int32) (a2 : Int32) (a3 : Int32) (a4 : Int32) (σ : ds_S) (Q : Option Value → ds_S → Prop) (h : w_X9_on a1 a2 a3 a4 σ Q) : ds_E mt_X9_on Ym [.ref 0, .int a1, .int a2, .int a3, .int a4] σ Q := by
  refine ds_enter (by decide) (Nat.le_of_ble_eq_true rfl) ?_
  show ds_X mt_X9_on Ym 0 [some (.ref 0), some (.int a1), some (.int a2), some (.int a3), some (.int a4)] [] σ Q
  unfold w_X9_on at h
  refine ds_blk (ls2 := [some (.ref 0), some (.int a1), some (.int a2), some (.int a3), some (.int a4)]) (st2 := [.int a1]) (σ2 := σ) ok_X9_on 0 1 0 1 [] rfl rfl rfl rfl trivial ?_
  refine ds_callS (z := mt_X9_isTable) (as := [.int a1]) (rest := []) (show decode mt_X9_on.2.1 1 = .ok (.invokestatic 99, 3) from ds_dec (i := (1, .invokestatic 99, 3, 0, 0, 869, .int 0)) ok_X9_on 1 rfl) (ds_E.mono (sp_X9_isTable a1 σ ) (fun r σ1 hr => ?_)) ⟨zw_X9_isTable.1, zw_X9_isTable.2.1, zw_X9_isTable.2.2, by decide, by decide⟩ (ds_wb_T (p := 869) (by decide +kernel)) zt_X9_isTable (Nat.le_of_ble_eq_true rfl)
  obtain ⟨x9, rfl, e8, e9⟩ := hr
  rw [e8, e9]
  show ds_X mt_X9_on Ym 4 [some (.ref 0), some (.int a1), some (.int a2), some (.int a3), some (.int a4)] [.int (q_bx a1 3)] σ Q
  refine ds_if_eq (show decode mt_X9_on.2.1 4 = .ok (.ifCond .eq 11, 3) from ds_dec (i := (4, .ifCond .eq 11, 3, 0, 0, 0, .int 0)) ok_X9_on 2 rfl) (t := 15) (by decide) (fun hc => ?_) (fun hc => ?_)
  · replace h := h.1 hc
    refine ds_blk (ls2 := [some (.ref 0), some (.int a1), some (.int a2), some (.int a3), some (.int a4)]) (st2 := [.long (-1000000000000000001 : Int64)]) (σ2 := σ) ok_X9_on 7 1 15 18 [] rfl rfl rfl rfl trivial ?_
    exact ds_lret (show decode mt_X9_on.2.1 18 = .ok (.lreturn, 1) from ds_dec (i := (18, .lreturn, 1, 0, 0, 0, .int 0)) ok_X9_on 8 rfl) rfl h
  · replace h := h.2 hc
    refine ds_blk (ls2 := [some (.ref 0), some (.int a1), some (.int a2), some (.int a3), some (.int a4)]) (st2 := [.int a2, .ref 0]) (σ2 := σ) ok_X9_on 3 2 7 9 [] rfl rfl rfl rfl trivial ?_
    refine ds_callV (z := mt_X9_isLine) (b := 0) (as := [.int a2]) (rest := []) (show decode mt_X9_on.2.1 9 = .ok (.invokevirtual 96, 3) from ds_dec (i := (9, .invokevirtual 96, 3, 0, 0, 853, .int 0)) ok_X9_on 5 rfl) (ds_E.mono (sp_X9_isLine a2 σ ) (fun r σ2 hr => ?_)) ⟨zw_X9_isLine.1, zw_X9_isLine.2.1, zw_X9_isLine.2.2, by decide, by decide⟩ (ds_wb_T (p := 853) (by decide +kernel)) zi_X9_isLine zs_X9_isLine (by decide) rfl ⟨_, rfl, rfl⟩ (Nat.le_of_ble_eq_true rfl)
    obtain ⟨x9, rfl, e8, e9⟩ := hr
    rw [e8, e9]
    show ds_X mt_X9_on Ym 12 [some (.ref 0), some (.int a1), some (.int a2), some (.int a3), some (.int a4)] [.int (q_bx a2 (σ.1 0 7))] σ Q
    refine ds_if_ne (show decode mt_X9_on.2.1 12 = .ok (.ifCond .ne 7, 3) from ds_dec (i := (12, .ifCond .ne 7, 3, 0, 0, 0, .int 0)) ok_X9_on 6 rfl) (t := 19) (by decide) (fun hc => ?_) (fun hc => ?_)
    · replace h := h.1 hc
      refine ds_blk (ls2 := [some (.ref 0), some (.int a1), some (.int a2), some (.int a3), some (.int a4)]) (st2 := [.long (1 : Int64), .long (0 : Int64), .long a3.toInt64]) (σ2 := σ) ok_X9_on 9 4 19 23 [] rfl rfl rfl rfl trivial ?_
      refine ds_callS (z := mt_X9_in) (as := [.long a3.toInt64, .long (0 : Int64), .long (1 : Int64)]) (rest := []) (show decode mt_X9_on.2.1 23 = .ok (.invokestatic 73, 3) from ds_dec (i := (23, .invokestatic 73, 3, 0, 0, 836, .int 0)) ok_X9_on 13 rfl) (ds_E.mono (sp_X9_in a3.toInt64 (0 : Int64) (1 : Int64) σ ) (fun r σ3 hr => ?_)) ⟨zw_X9_in.1, zw_X9_in.2.1, zw_X9_in.2.2, by decide, by decide⟩ (ds_wb_T (p := 836) (by decide +kernel)) zt_X9_in (Nat.le_of_ble_eq_true rfl)
      obtain ⟨x9, rfl, e8, e9⟩ := hr
      rw [e8, e9]
      show ds_X mt_X9_on Ym 26 [some (.ref 0), some (.int a1), some (.int a2), some (.int a3), some (.int a4)] [.int (q_in a3.toInt64 (0 : Int64) (1 : Int64))] σ Q
      refine ds_if_eq (show decode mt_X9_on.2.1 26 = .ok (.ifCond .eq 14, 3) from ds_dec (i := (26, .ifCond .eq 14, 3, 0, 0, 0, .int 0)) ok_X9_on 14 rfl) (t := 40) (by decide) (fun hc => ?_) (fun hc => ?_)
      · replace h := h.1 hc
        refine ds_blk (ls2 := [some (.ref 0), some (.int a1), some (.int a2), some (.int a3), some (.int a4)]) (st2 := [.long (-1000000000000000002 : Int64)]) (σ2 := σ) ok_X9_on 21 1 40 43 [] rfl rfl rfl rfl trivial ?_
        exact ds_lret (show decode mt_X9_on.2.1 43 = .ok (.lreturn, 1) from ds_dec (i := (43, .lreturn, 1, 0, 0, 0, .int 0)) ok_X9_on 22 rfl) rfl h
      · replace h := h.2 hc
        refine ds_blk (ls2 := [some (.ref 0), some (.int a1), some (.int a2), some (.int a3), some (.int a4)]) (st2 := [.long (1 : Int64), .long (0 : Int64), .long a4.toInt64]) (σ2 := σ) ok_X9_on 15 4 29 34 [] rfl rfl rfl rfl trivial ?_
        refine ds_callS (z := mt_X9_in) (as := [.long a4.toInt64, .long (0 : Int64), .long (1 : Int64)]) (rest := []) (show decode mt_X9_on.2.1 34 = .ok (.invokestatic 73, 3) from ds_dec (i := (34, .invokestatic 73, 3, 0, 0, 836, .int 0)) ok_X9_on 19 rfl) (ds_E.mono (sp_X9_in a4.toInt64 (0 : Int64) (1 : Int64) σ ) (fun r σ4 hr => ?_)) ⟨zw_X9_in.1, zw_X9_in.2.1, zw_X9_in.2.2, by decide, by decide⟩ (ds_wb_T (p := 836) (by decide +kernel)) zt_X9_in (Nat.le_of_ble_eq_true rfl)
        obtain ⟨x9, rfl, e8, e9⟩ := hr
        rw [e8, e9]
        show ds_X mt_X9_on Ym 37 [some (.ref 0), some (.int a1), some (.int a2), some (.int a3), some (.int a4)] [.int (q_in a4.toInt64 (0 : Int64) (1 : Int64))] σ Q
        refine ds_if_ne (show decode mt_X9_on.2.1 37 = .ok (.ifCond .ne 7, 3) from ds_dec (i := (37, .ifCond .ne 7, 3, 0, 0, 0, .int 0)) ok_X9_on 20 rfl) (t := 44) (by decide) (fun hc => ?_) (fun hc => ?_)
        · replace h := h.1 hc
          refine ds_blk (ls2 := [some (.ref 0), some (.int a1), some (.int a2), some (.int a3), some (.int a4)]) (st2 := [.int a1, .ref 0]) (σ2 := σ) ok_X9_on 23 2 44 46 [] rfl rfl rfl rfl trivial ?_
          refine ds_callV (z := mt_X9_findOn) (b := 0) (as := [.int a1]) (rest := []) (show decode mt_X9_on.2.1 46 = .ok (.invokevirtual 149, 3) from ds_dec (i := (46, .invokevirtual 149, 3, 0, 0, 929, .int 0)) ok_X9_on 25 rfl) (ds_E.mono h (fun r σ5 hr => ?_)) ⟨zw_X9_findOn.1, zw_X9_findOn.2.1, zw_X9_findOn.2.2, by decide, by decide⟩ (ds_wb_T (p := 929) (by decide +kernel)) zi_X9_findOn zs_X9_findOn (by decide) rfl ⟨_, rfl, rfl⟩ (Nat.le_of_ble_eq_true rfl)
          obtain ⟨rfl, h⟩ := hr
          show ds_X mt_X9_on Ym 49 [some (.ref 0), some (.int a1), some (.int a2), some (.int a3), some (.int a4)] [] σ5 Q
          refine ds_blk (ls2 := [some (.ref 0), some (.int a1), some (.int a2), some (.int a3), some (.int a4)]) (st2 := [.int a4]) (σ2 := σ5) ok_X9_on 26 1 49 51 [] rfl rfl rfl rfl trivial ?_
          refine ds_if_ne (show decode mt_X9_on.2.1 51 = .ok (.ifCond .ne 16, 3) from ds_dec (i := (51, .ifCond .ne 16, 3, 0, 0, 0, .int 0)) ok_X9_on 27 rfl) (t := 67) (by decide) (fun hc => ?_) (fun hc => ?_)
          · replace h := h.1 hc
            obtain ⟨o1, h⟩ := h
            refine ds_blk (ls2 := [some (.ref 0), some (.int a1), some (.int a2), some (.int a3), some (.int a4)]) (st2 := [.long (σ5.2 13 ((((2 : Int32) * a2) + a3).toNatClampNeg))]) (σ2 := σ5) ok_X9_on 37 8 67 77 [ds_k Ym 0 9, ds_k Ym 13 11, vp_in (((2 : Int32) * a2) + a3) 20] rfl rfl rfl rfl ⟨⟨by decide, rfl⟩, ⟨by decide, rfl⟩, o1, trivial⟩ ?_
            exact ds_lret (show decode mt_X9_on.2.1 77 = .ok (.lreturn, 1) from ds_dec (i := (77, .lreturn, 1, 0, 0, 0, .int 0)) ok_X9_on 45 rfl) rfl h
          · replace h := h.2 hc
            obtain ⟨o2, h⟩ := h
            refine ds_blk (ls2 := [some (.ref 0), some (.int a1), some (.int a2), some (.int a3), some (.int a4)]) (st2 := [.long (σ5.2 12 ((((2 : Int32) * a2) + a3).toNatClampNeg))]) (σ2 := σ5) ok_X9_on 28 8 54 64 [ds_k Ym 0 9, ds_k Ym 12 11, vp_in (((2 : Int32) * a2) + a3) 20] rfl rfl rfl rfl ⟨⟨by decide, rfl⟩, ⟨by decide, rfl⟩, o2, trivial⟩ ?_
            refine ds_goto (show decode mt_X9_on.2.1 64 = .ok (.goto 13, 3) from ds_dec (i := (64, .goto 13, 3, 0, 0, 0, .int 0)) ok_X9_on 36 rfl) (t := 77) (by decide) ?_
            exact ds_lret (show decode mt_X9_on.2.1 77 = .ok (.lreturn, 1) from ds_dec (i := (77, .lreturn, 1, 0, 0, 0, .int 0)) ok_X9_on 45 rfl) rfl h
        · replace h := h.2 hc
          refine ds_blk (ls2 := [some (.ref 0), some (.int a1), some (.int a2), some (.int a3), some (.int a4)]) (st2 := [.long (-1000000000000000002 : Int64)]) (σ2 := σ) ok_X9_on 21 1 40 43 [] rfl rfl rfl rfl trivial ?_
          exact ds_lret (show decode mt_X9_on.2.1 43 = .ok (.lreturn, 1) from ds_dec (i := (43, .lreturn, 1, 0, 0, 0, .int 0)) ok_X9_on 22 rfl) rfl h
    · replace h := h.2 hc
      refine ds_blk (ls2 := [some (.ref 0), some (.int a1), some (.int a2), some (.int a3), some (.int a4)]) (st2 := [.long (-1000000000000000001 : Int64)]) (σ2 := σ) ok_X9_on 7 1 15 18 [] rfl rfl rfl rfl trivial ?_
      exact ds_lret (show decode mt_X9_on.2.1 18 = .ok (.lreturn, 1) from ds_dec (i := (18, .lreturn, 1, 0, 0, 0, .int 0)) ok_X9_on 8 rfl) rfl h
def w_X9_findWorst_22 : Nat → (v2 : Int32) → (σ : ds_S) → (Q : Option Value → ds_S → Prop) → Prop
  | 0, _, _, _ => False
  | f + 1, v2, σ, Q => ((((2 : Int32) * (σ.1 0 7)) ≤ v2 → Q none σ) ∧ (¬ ((2 : Int32) * (σ.1 0 7)) ≤ v2 → vp_in v2 20 ∧ vp_in (v2 / (2 : Int32)) 10 ∧ vp_in v2 20 ∧ 0 ≤ (σ.2 12 v2.toNatClampNeg) ∧ 0 < ((σ.2 13 v2.toNatClampNeg) * (σ.1 3 ((v2 / (2 : Int32)).toNatClampNeg)).toInt64) ∧ 0 ≤ (σ.2 0 19) ∧ 0 < (σ.2 0 20) ∧ (((q_gt (σ.2 12 v2.toNatClampNeg) ((σ.2 13 v2.toNatClampNeg) * (σ.1 3 ((v2 / (2 : Int32)).toNatClampNeg)).toInt64) (σ.2 0 19) (σ.2 0 20)) = 0 → w_X9_findWorst_22 f (v2 + (1 : Int32)) σ Q) ∧ (¬ (q_gt (σ.2 12 v2.toNatClampNeg) ((σ.2 13 v2.toNatClampNeg) * (σ.1 3 ((v2 / (2 : Int32)).toNatClampNeg)).toInt64) (σ.2 0 19) (σ.2 0 20)) = 0 → vp_in v2 20 ∧ 0 ≤ (σ.2 12 v2.toNatClampNeg) ∧ 0 < ((σ.2 13 v2.toNatClampNeg) * (σ.1 3 ((v2 / (2 : Int32)).toNatClampNeg)).toInt64) ∧ vp_in v2 20 ∧ 0 ≤ (σ.2 12 v2.toNatClampNeg) ∧ 0 < ((σ.2 13 v2.toNatClampNeg) * (σ.1 3 ((v2 / (2 : Int32)).toNatClampNeg)).toInt64) ∧ w_X9_findWorst_22 f (v2 + (1 : Int32)) (ds_wi (ds_wl (ds_wl σ 0 19 (q_low (σ.2 12 v2.toNatClampNeg) ((σ.2 13 v2.toNatClampNeg) * (σ.1 3 ((v2 / (2 : Int32)).toNatClampNeg)).toInt64) (0 : Int32))) 0 20 (q_low (σ.2 12 v2.toNatClampNeg) ((σ.2 13 v2.toNatClampNeg) * (σ.1 3 ((v2 / (2 : Int32)).toNatClampNeg)).toInt64) (1 : Int32))) 0 21 v2) Q))))
theorem x_X9_findWorst_22 : ∀ (f : Nat) (v2 : Int32) (g1 : Option Value) (g3 : Option Value) (g4 : Option Value) (σ : ds_S) (Q : Option Value → ds_S → Prop), w_X9_findWorst_22 f v2 σ Q → ds_X mt_X9_findWorst Ym 22 [some (.ref 0), g1, some (.int v2), g3, g4] [] σ Q := by
  intro f
  induction f with
  | zero => intro v2 g1 g3 g4 σ Q h; exact False.elim h
  | succ f ih =>
    intro v2 g1 g3 g4 σ Q h
    rw [w_X9_findWorst_22] at h
    refine ds_blk (ls2 := [some (.ref 0), g1, some (.int v2), g3, g4]) (st2 := [.int ((2 : Int32) * (σ.1 0 7)), .int v2]) (σ2 := σ) ok_X9_findWorst 14 5 22 29 [ds_k Ym 0 9] rfl rfl rfl rfl ⟨⟨by decide, rfl⟩, trivial⟩ ?_
    refine ds_ic_ge (show decode mt_X9_findWorst.2.1 29 = .ok (.if_icmp .ge 82, 3) from ds_dec (i := (29, .if_icmp .ge 82, 3, 0, 0, 0, .int 0)) ok_X9_findWorst 19 rfl) (t := 111) (by decide) (fun hc => ?_) (fun hc => ?_)
    · replace h := h.1 hc
      exact ds_vret (show decode mt_X9_findWorst.2.1 111 = .ok (.return_, 1) from ds_dec (i := (111, .return_, 1, 0, 0, 0, .int 0)) ok_X9_findWorst 67 rfl) rfl h
    · replace h := h.2 hc
      obtain ⟨o1, o2, o3, h⟩ := h
      refine ds_blk (ls2 := [some (.ref 0), g1, some (.int v2), some (.long ((σ.2 13 v2.toNatClampNeg) * (σ.1 3 ((v2 / (2 : Int32)).toNatClampNeg)).toInt64)), none]) (st2 := [.long (σ.2 0 20), .long (σ.2 0 19), .long ((σ.2 13 v2.toNatClampNeg) * (σ.1 3 ((v2 / (2 : Int32)).toNatClampNeg)).toInt64), .long (σ.2 12 v2.toNatClampNeg)]) (σ2 := σ) ok_X9_findWorst 20 22 32 64 [ds_k Ym 0 9, ds_k Ym 13 11, vp_in v2 20, ds_k Ym 0 9, ¬ (2 : Int32) = 0, ds_k Ym 3 10, vp_in (v2 / (2 : Int32)) 10, ds_k Ym 0 9, ds_k Ym 12 11, vp_in v2 20, ds_k Ym 0 9, ds_k Ym 0 9] rfl rfl rfl rfl ⟨⟨by decide, rfl⟩, ⟨by decide, rfl⟩, o1, ⟨by decide, rfl⟩, (by decide), ⟨by decide, rfl⟩, o2, ⟨by decide, rfl⟩, ⟨by decide, rfl⟩, o3, ⟨by decide, rfl⟩, ⟨by decide, rfl⟩, trivial⟩ ?_
      obtain ⟨o4, o5, o6, o7, h⟩ := h
      refine ds_callS (z := mt_X9_isGreater) (as := [.long (σ.2 12 v2.toNatClampNeg), .long ((σ.2 13 v2.toNatClampNeg) * (σ.1 3 ((v2 / (2 : Int32)).toNatClampNeg)).toInt64), .long (σ.2 0 19), .long (σ.2 0 20)]) (rest := []) (show decode mt_X9_findWorst.2.1 64 = .ok (.invokestatic 161, 3) from ds_dec (i := (64, .invokestatic 161, 3, 0, 0, 942, .int 0)) ok_X9_findWorst 42 rfl) (ds_E.mono (sp_X9_isGreater (σ.2 12 v2.toNatClampNeg) ((σ.2 13 v2.toNatClampNeg) * (σ.1 3 ((v2 / (2 : Int32)).toNatClampNeg)).toInt64) (σ.2 0 19) (σ.2 0 20) σ o4 o5 o6 o7) (fun r σ1 hr => ?_)) ⟨zw_X9_isGreater.1, zw_X9_isGreater.2.1, zw_X9_isGreater.2.2, by decide, by decide⟩ (ds_wb_T (p := 942) (by decide +kernel)) zt_X9_isGreater (Nat.le_of_ble_eq_true rfl)
      obtain ⟨x9, rfl, e8, e9⟩ := hr
      rw [e8, e9]
      show ds_X mt_X9_findWorst Ym 67 [some (.ref 0), g1, some (.int v2), some (.long ((σ.2 13 v2.toNatClampNeg) * (σ.1 3 ((v2 / (2 : Int32)).toNatClampNeg)).toInt64)), none] [.int (q_gt (σ.2 12 v2.toNatClampNeg) ((σ.2 13 v2.toNatClampNeg) * (σ.1 3 ((v2 / (2 : Int32)).toNatClampNeg)).toInt64) (σ.2 0 19) (σ.2 0 20))] σ Q
      refine ds_if_eq (show decode mt_X9_findWorst.2.1 67 = .ok (.ifCond .eq 38, 3) from ds_dec (i := (67, .ifCond .eq 38, 3, 0, 0, 0, .int 0)) ok_X9_findWorst 43 rfl) (t := 105) (by decide) (fun hc => ?_) (fun hc => ?_)
      · replace h := h.1 hc
        refine ds_blk (ls2 := [some (.ref 0), (ds_nl g1), some (.int (v2 + (1 : Int32))), some (.long ((σ.2 13 v2.toNatClampNeg) * (σ.1 3 ((v2 / (2 : Int32)).toNatClampNeg)).toInt64)), none]) (st2 := []) (σ2 := σ) ok_X9_findWorst 65 1 105 108 [] rfl rfl rfl rfl trivial ?_
        refine ds_goto (show decode mt_X9_findWorst.2.1 108 = .ok (.goto (-86), 3) from ds_dec (i := (108, .goto (-86), 3, 0, 0, 0, .int 0)) ok_X9_findWorst 66 rfl) (t := 22) (by decide) ?_
        exact ih (v2 + (1 : Int32)) _ _ _ σ Q h
      · replace h := h.2 hc
        obtain ⟨o8, h⟩ := h
        refine ds_blk (ls2 := [some (.ref 0), g1, some (.int v2), some (.long ((σ.2 13 v2.toNatClampNeg) * (σ.1 3 ((v2 / (2 : Int32)).toNatClampNeg)).toInt64)), none]) (st2 := [.int (0 : Int32), .long ((σ.2 13 v2.toNatClampNeg) * (σ.1 3 ((v2 / (2 : Int32)).toNatClampNeg)).toInt64), .long (σ.2 12 v2.toNatClampNeg), .ref 0]) (σ2 := σ) ok_X9_findWorst 44 7 70 79 [ds_k Ym 0 9, ds_k Ym 12 11, vp_in v2 20] rfl rfl rfl rfl ⟨⟨by decide, rfl⟩, ⟨by decide, rfl⟩, o8, trivial⟩ ?_
        obtain ⟨o9, o10, h⟩ := h
        refine ds_callS (z := mt_X9_lowest) (as := [.long (σ.2 12 v2.toNatClampNeg), .long ((σ.2 13 v2.toNatClampNeg) * (σ.1 3 ((v2 / (2 : Int32)).toNatClampNeg)).toInt64), .int (0 : Int32)]) (rest := [.ref 0]) (show decode mt_X9_findWorst.2.1 79 = .ok (.invokestatic 145, 3) from ds_dec (i := (79, .invokestatic 145, 3, 0, 0, 919, .int 0)) ok_X9_findWorst 51 rfl) (ds_E.mono (sp_X9_lowest (σ.2 12 v2.toNatClampNeg) ((σ.2 13 v2.toNatClampNeg) * (σ.1 3 ((v2 / (2 : Int32)).toNatClampNeg)).toInt64) (0 : Int32) σ o9 o10) (fun r σ2 hr => ?_)) ⟨zw_X9_lowest.1, zw_X9_lowest.2.1, zw_X9_lowest.2.2, by decide, by decide⟩ (ds_wb_T (p := 919) (by decide +kernel)) zt_X9_lowest (Nat.le_of_ble_eq_true rfl)
        obtain ⟨x9, rfl, e8, e9⟩ := hr
        rw [e8, e9]
        show ds_X mt_X9_findWorst Ym 82 [some (.ref 0), g1, some (.int v2), some (.long ((σ.2 13 v2.toNatClampNeg) * (σ.1 3 ((v2 / (2 : Int32)).toNatClampNeg)).toInt64)), none] [.long (q_low (σ.2 12 v2.toNatClampNeg) ((σ.2 13 v2.toNatClampNeg) * (σ.1 3 ((v2 / (2 : Int32)).toNatClampNeg)).toInt64) (0 : Int32)), .ref 0] σ Q
        obtain ⟨o11, h⟩ := h
        refine ds_blk (ls2 := [some (.ref 0), g1, some (.int v2), some (.long ((σ.2 13 v2.toNatClampNeg) * (σ.1 3 ((v2 / (2 : Int32)).toNatClampNeg)).toInt64)), none]) (st2 := [.int (1 : Int32), .long ((σ.2 13 v2.toNatClampNeg) * (σ.1 3 ((v2 / (2 : Int32)).toNatClampNeg)).toInt64), .long (σ.2 12 v2.toNatClampNeg), .ref 0]) (σ2 := (ds_wl σ 0 19 (q_low (σ.2 12 v2.toNatClampNeg) ((σ.2 13 v2.toNatClampNeg) * (σ.1 3 ((v2 / (2 : Int32)).toNatClampNeg)).toInt64) (0 : Int32)))) ok_X9_findWorst 52 8 82 94 [ds_k Ym 0 9, ds_k Ym 0 9, ds_k Ym 12 11, vp_in v2 20] rfl rfl rfl rfl ⟨⟨by decide, rfl⟩, ⟨by decide, rfl⟩, ⟨by decide, rfl⟩, o11, trivial⟩ ?_
        obtain ⟨o12, o13, h⟩ := h
        refine ds_callS (z := mt_X9_lowest) (as := [.long (σ.2 12 v2.toNatClampNeg), .long ((σ.2 13 v2.toNatClampNeg) * (σ.1 3 ((v2 / (2 : Int32)).toNatClampNeg)).toInt64), .int (1 : Int32)]) (rest := [.ref 0]) (show decode mt_X9_findWorst.2.1 94 = .ok (.invokestatic 145, 3) from ds_dec (i := (94, .invokestatic 145, 3, 0, 0, 919, .int 0)) ok_X9_findWorst 60 rfl) (ds_E.mono (sp_X9_lowest (σ.2 12 v2.toNatClampNeg) ((σ.2 13 v2.toNatClampNeg) * (σ.1 3 ((v2 / (2 : Int32)).toNatClampNeg)).toInt64) (1 : Int32) (ds_wl σ 0 19 (q_low (σ.2 12 v2.toNatClampNeg) ((σ.2 13 v2.toNatClampNeg) * (σ.1 3 ((v2 / (2 : Int32)).toNatClampNeg)).toInt64) (0 : Int32))) o12 o13) (fun r σ3 hr => ?_)) ⟨zw_X9_lowest.1, zw_X9_lowest.2.1, zw_X9_lowest.2.2, by decide, by decide⟩ (ds_wb_T (p := 919) (by decide +kernel)) zt_X9_lowest (Nat.le_of_ble_eq_true rfl)
        obtain ⟨x9, rfl, e8, e9⟩ := hr
        rw [e8, e9]
        show ds_X mt_X9_findWorst Ym 97 [some (.ref 0), g1, some (.int v2), some (.long ((σ.2 13 v2.toNatClampNeg) * (σ.1 3 ((v2 / (2 : Int32)).toNatClampNeg)).toInt64)), none] [.long (q_low (σ.2 12 v2.toNatClampNeg) ((σ.2 13 v2.toNatClampNeg) * (σ.1 3 ((v2 / (2 : Int32)).toNatClampNeg)).toInt64) (1 : Int32)), .ref 0] (ds_wl σ 0 19 (q_low (σ.2 12 v2.toNatClampNeg) ((σ.2 13 v2.toNatClampNeg) * (σ.1 3 ((v2 / (2 : Int32)).toNatClampNeg)).toInt64) (0 : Int32))) Q
        refine ds_blk (ls2 := [some (.ref 0), (ds_nl g1), some (.int (v2 + (1 : Int32))), some (.long ((σ.2 13 v2.toNatClampNeg) * (σ.1 3 ((v2 / (2 : Int32)).toNatClampNeg)).toInt64)), none]) (st2 := []) (σ2 := (ds_wi (ds_wl (ds_wl σ 0 19 (q_low (σ.2 12 v2.toNatClampNeg) ((σ.2 13 v2.toNatClampNeg) * (σ.1 3 ((v2 / (2 : Int32)).toNatClampNeg)).toInt64) (0 : Int32))) 0 20 (q_low (σ.2 12 v2.toNatClampNeg) ((σ.2 13 v2.toNatClampNeg) * (σ.1 3 ((v2 / (2 : Int32)).toNatClampNeg)).toInt64) (1 : Int32))) 0 21 v2)) ok_X9_findWorst 61 5 97 108 [ds_k Ym 0 9, ds_k Ym 0 9] rfl rfl rfl rfl ⟨⟨by decide, rfl⟩, ⟨by decide, rfl⟩, trivial⟩ ?_
        refine ds_goto (show decode mt_X9_findWorst.2.1 108 = .ok (.goto (-86), 3) from ds_dec (i := (108, .goto (-86), 3, 0, 0, 0, .int 0)) ok_X9_findWorst 66 rfl) (t := 22) (by decide) ?_
        exact ih (v2 + (1 : Int32)) _ _ _ (ds_wi (ds_wl (ds_wl σ 0 19 (q_low (σ.2 12 v2.toNatClampNeg) ((σ.2 13 v2.toNatClampNeg) * (σ.1 3 ((v2 / (2 : Int32)).toNatClampNeg)).toInt64) (0 : Int32))) 0 20 (q_low (σ.2 12 v2.toNatClampNeg) ((σ.2 13 v2.toNatClampNeg) * (σ.1 3 ((v2 / (2 : Int32)).toNatClampNeg)).toInt64) (1 : Int32))) 0 21 v2) Q h
def w_X9_findWorst (a1 : Int32) (σ : ds_S) (Q : Option Value → ds_S → Prop) : Prop := ds_EV mt_X9_findOn Ym [.ref 0, .int a1] σ (fun σ1 => ∃ n, w_X9_findWorst_22 n (0 : Int32) (ds_wi (ds_wl (ds_wl σ1 0 19 (0 : Int64)) 0 20 (1 : Int64)) 0 21 (-1 : Int32)) Q)
theorem e_X9_findWorst (a1 : Int32) (σ : ds_S) (Q : Option Value → ds_S → Prop) (h : w_X9_findWorst a1 σ Q) : ds_E mt_X9_findWorst Ym [.ref 0, .int a1] σ Q := by
  refine ds_enter (by decide) (Nat.le_of_ble_eq_true rfl) ?_
  show ds_X mt_X9_findWorst Ym 0 [some (.ref 0), some (.int a1), none, none, none] [] σ Q
  unfold w_X9_findWorst at h
  refine ds_blk (ls2 := [some (.ref 0), some (.int a1), none, none, none]) (st2 := [.int a1, .ref 0]) (σ2 := σ) ok_X9_findWorst 0 2 0 2 [] rfl rfl rfl rfl trivial ?_
  refine ds_callV (z := mt_X9_findOn) (b := 0) (as := [.int a1]) (rest := []) (show decode mt_X9_findWorst.2.1 2 = .ok (.invokevirtual 149, 3) from ds_dec (i := (2, .invokevirtual 149, 3, 0, 0, 929, .int 0)) ok_X9_findWorst 2 rfl) (ds_E.mono h (fun r σ1 hr => ?_)) ⟨zw_X9_findOn.1, zw_X9_findOn.2.1, zw_X9_findOn.2.2, by decide, by decide⟩ (ds_wb_T (p := 929) (by decide +kernel)) zi_X9_findOn zs_X9_findOn (by decide) rfl ⟨_, rfl, rfl⟩ (Nat.le_of_ble_eq_true rfl)
  obtain ⟨rfl, h⟩ := hr
  show ds_X mt_X9_findWorst Ym 5 [some (.ref 0), some (.int a1), none, none, none] [] σ1 Q
  refine ds_blk (ls2 := [some (.ref 0), some (.int a1), some (.int (0 : Int32)), none, none]) (st2 := []) (σ2 := (ds_wi (ds_wl (ds_wl σ1 0 19 (0 : Int64)) 0 20 (1 : Int64)) 0 21 (-1 : Int32))) ok_X9_findWorst 3 11 5 22 [ds_k Ym 0 9, ds_k Ym 0 9, ds_k Ym 0 9] rfl rfl rfl rfl ⟨⟨by decide, rfl⟩, ⟨by decide, rfl⟩, ⟨by decide, rfl⟩, trivial⟩ ?_
  obtain ⟨n, h⟩ := h
  refine x_X9_findWorst_22 n (0 : Int32) _ _ _ (ds_wi (ds_wl (ds_wl σ1 0 19 (0 : Int64)) 0 20 (1 : Int64)) 0 21 (-1 : Int32)) Q h
def w_X9_worst (a1 : Int32) (a2 : Int32) (σ : ds_S) (Q : Option Value → ds_S → Prop) : Prop := ((¬ (q_bx a1 3) = 0 → ((¬ (q_in a2.toInt64 (0 : Int64) (3 : Int64)) = 0 → ds_EV mt_X9_findWorst Ym [.ref 0, .int a1] σ (fun σ3 => (((2 : Int32) ≤ a2 → ((0 ≤ (σ3.1 0 21) → ((¬ a2 = (2 : Int32) → Q (some (.long (((σ3.1 0 21) - (σ3.1 0 21) / (2 : Int32) * (2 : Int32)).toInt64))) σ3) ∧ (a2 = (2 : Int32) → Q (some (.long (((σ3.1 0 21) / (2 : Int32)).toInt64))) σ3))) ∧ (¬ 0 ≤ (σ3.1 0 21) → Q (some (.long (-6 : Int64))) σ3))) ∧ (¬ (2 : Int32) ≤ a2 → ((¬ a2 = 0 → Q (some (.long (σ3.2 0 20))) σ3) ∧ (a2 = 0 → Q (some (.long (σ3.2 0 19))) σ3)))))) ∧ ((q_in a2.toInt64 (0 : Int64) (3 : Int64)) = 0 → Q (some (.long (-1000000000000000002 : Int64))) σ))) ∧ ((q_bx a1 3) = 0 → Q (some (.long (-1000000000000000001 : Int64))) σ))
theorem e_X9_worst (a1 : Int32) (a2 : Int32) (σ : ds_S) (Q : Option Value → ds_S → Prop) (h : w_X9_worst a1 a2 σ Q) : ds_E mt_X9_worst Ym [.ref 0, .int a1, .int a2] σ Q := by
  refine ds_enter (by decide) (Nat.le_of_ble_eq_true rfl) ?_
  show ds_X mt_X9_worst Ym 0 [some (.ref 0), some (.int a1), some (.int a2)] [] σ Q
  unfold w_X9_worst at h
  refine ds_blk (ls2 := [some (.ref 0), some (.int a1), some (.int a2)]) (st2 := [.int a1]) (σ2 := σ) ok_X9_worst 0 1 0 1 [] rfl rfl rfl rfl trivial ?_
  refine ds_callS (z := mt_X9_isTable) (as := [.int a1]) (rest := []) (show decode mt_X9_worst.2.1 1 = .ok (.invokestatic 99, 3) from ds_dec (i := (1, .invokestatic 99, 3, 0, 0, 869, .int 0)) ok_X9_worst 1 rfl) (ds_E.mono (sp_X9_isTable a1 σ ) (fun r σ1 hr => ?_)) ⟨zw_X9_isTable.1, zw_X9_isTable.2.1, zw_X9_isTable.2.2, by decide, by decide⟩ (ds_wb_T (p := 869) (by decide +kernel)) zt_X9_isTable (Nat.le_of_ble_eq_true rfl)
  obtain ⟨x9, rfl, e8, e9⟩ := hr
  rw [e8, e9]
  show ds_X mt_X9_worst Ym 4 [some (.ref 0), some (.int a1), some (.int a2)] [.int (q_bx a1 3)] σ Q
  refine ds_if_ne (show decode mt_X9_worst.2.1 4 = .ok (.ifCond .ne 7, 3) from ds_dec (i := (4, .ifCond .ne 7, 3, 0, 0, 0, .int 0)) ok_X9_worst 2 rfl) (t := 11) (by decide) (fun hc => ?_) (fun hc => ?_)
  · replace h := h.1 hc
    refine ds_blk (ls2 := [some (.ref 0), some (.int a1), some (.int a2)]) (st2 := [.long (3 : Int64), .long (0 : Int64), .long a2.toInt64]) (σ2 := σ) ok_X9_worst 5 4 11 17 [] rfl rfl rfl rfl trivial ?_
    refine ds_callS (z := mt_X9_in) (as := [.long a2.toInt64, .long (0 : Int64), .long (3 : Int64)]) (rest := []) (show decode mt_X9_worst.2.1 17 = .ok (.invokestatic 73, 3) from ds_dec (i := (17, .invokestatic 73, 3, 0, 0, 836, .int 0)) ok_X9_worst 9 rfl) (ds_E.mono (sp_X9_in a2.toInt64 (0 : Int64) (3 : Int64) σ ) (fun r σ2 hr => ?_)) ⟨zw_X9_in.1, zw_X9_in.2.1, zw_X9_in.2.2, by decide, by decide⟩ (ds_wb_T (p := 836) (by decide +kernel)) zt_X9_in (Nat.le_of_ble_eq_true rfl)
    obtain ⟨x9, rfl, e8, e9⟩ := hr
    rw [e8, e9]
    show ds_X mt_X9_worst Ym 20 [some (.ref 0), some (.int a1), some (.int a2)] [.int (q_in a2.toInt64 (0 : Int64) (3 : Int64))] σ Q
    refine ds_if_ne (show decode mt_X9_worst.2.1 20 = .ok (.ifCond .ne 7, 3) from ds_dec (i := (20, .ifCond .ne 7, 3, 0, 0, 0, .int 0)) ok_X9_worst 10 rfl) (t := 27) (by decide) (fun hc => ?_) (fun hc => ?_)
    · replace h := h.1 hc
      refine ds_blk (ls2 := [some (.ref 0), some (.int a1), some (.int a2)]) (st2 := [.int a1, .ref 0]) (σ2 := σ) ok_X9_worst 13 2 27 29 [] rfl rfl rfl rfl trivial ?_
      refine ds_callV (z := mt_X9_findWorst) (b := 0) (as := [.int a1]) (rest := []) (show decode mt_X9_worst.2.1 29 = .ok (.invokevirtual 167, 3) from ds_dec (i := (29, .invokevirtual 167, 3, 0, 0, 938, .int 0)) ok_X9_worst 15 rfl) (ds_E.mono h (fun r σ3 hr => ?_)) ⟨zw_X9_findWorst.1, zw_X9_findWorst.2.1, zw_X9_findWorst.2.2, by decide, by decide⟩ (ds_wb_T (p := 938) (by decide +kernel)) zi_X9_findWorst zs_X9_findWorst (by decide) rfl ⟨_, rfl, rfl⟩ (Nat.le_of_ble_eq_true rfl)
      obtain ⟨rfl, h⟩ := hr
      show ds_X mt_X9_worst Ym 32 [some (.ref 0), some (.int a1), some (.int a2)] [] σ3 Q
      refine ds_blk (ls2 := [some (.ref 0), some (.int a1), some (.int a2)]) (st2 := [.int (2 : Int32), .int a2]) (σ2 := σ3) ok_X9_worst 16 2 32 34 [] rfl rfl rfl rfl trivial ?_
      refine ds_ic_ge (show decode mt_X9_worst.2.1 34 = .ok (.if_icmp .ge 19, 3) from ds_dec (i := (34, .if_icmp .ge 19, 3, 0, 0, 0, .int 0)) ok_X9_worst 18 rfl) (t := 53) (by decide) (fun hc => ?_) (fun hc => ?_)
      · replace h := h.1 hc
        refine ds_blk (ls2 := [some (.ref 0), some (.int a1), some (.int a2)]) (st2 := [.int (σ3.1 0 21)]) (σ2 := σ3) ok_X9_worst 27 2 53 57 [ds_k Ym 0 9] rfl rfl rfl rfl ⟨⟨by decide, rfl⟩, trivial⟩ ?_
        refine ds_if_ge (show decode mt_X9_worst.2.1 57 = .ok (.ifCond .ge 9, 3) from ds_dec (i := (57, .ifCond .ge 9, 3, 0, 0, 0, .int 0)) ok_X9_worst 29 rfl) (t := 66) (by decide) (fun hc => ?_) (fun hc => ?_)
        · replace h := h.1 hc
          refine ds_blk (ls2 := [some (.ref 0), some (.int a1), some (.int a2)]) (st2 := [.int (2 : Int32), .int a2]) (σ2 := σ3) ok_X9_worst 32 2 66 68 [] rfl rfl rfl rfl trivial ?_
          refine ds_ic_ne (show decode mt_X9_worst.2.1 68 = .ok (.if_icmp .ne 13, 3) from ds_dec (i := (68, .if_icmp .ne 13, 3, 0, 0, 0, .int 0)) ok_X9_worst 34 rfl) (t := 81) (by decide) (fun hc => ?_) (fun hc => ?_)
          · replace h := h.1 hc
            refine ds_blk (ls2 := [some (.ref 0), some (.int a1), some (.int a2)]) (st2 := [.long (((σ3.1 0 21) - (σ3.1 0 21) / (2 : Int32) * (2 : Int32)).toInt64)]) (σ2 := σ3) ok_X9_worst 41 5 81 88 [ds_k Ym 0 9, ¬ (2 : Int32) = 0] rfl rfl rfl rfl ⟨⟨by decide, rfl⟩, (by decide), trivial⟩ ?_
            exact ds_lret (show decode mt_X9_worst.2.1 88 = .ok (.lreturn, 1) from ds_dec (i := (88, .lreturn, 1, 0, 0, 0, .int 0)) ok_X9_worst 46 rfl) rfl h
          · replace h := h.2 hc
            refine ds_blk (ls2 := [some (.ref 0), some (.int a1), some (.int a2)]) (st2 := [.long (((σ3.1 0 21) / (2 : Int32)).toInt64)]) (σ2 := σ3) ok_X9_worst 35 5 71 78 [ds_k Ym 0 9, ¬ (2 : Int32) = 0] rfl rfl rfl rfl ⟨⟨by decide, rfl⟩, (by decide), trivial⟩ ?_
            refine ds_goto (show decode mt_X9_worst.2.1 78 = .ok (.goto 10, 3) from ds_dec (i := (78, .goto 10, 3, 0, 0, 0, .int 0)) ok_X9_worst 40 rfl) (t := 88) (by decide) ?_
            exact ds_lret (show decode mt_X9_worst.2.1 88 = .ok (.lreturn, 1) from ds_dec (i := (88, .lreturn, 1, 0, 0, 0, .int 0)) ok_X9_worst 46 rfl) rfl h
        · replace h := h.2 hc
          refine ds_blk (ls2 := [some (.ref 0), some (.int a1), some (.int a2)]) (st2 := [.long (-6 : Int64)]) (σ2 := σ3) ok_X9_worst 30 1 60 63 [] rfl rfl rfl rfl trivial ?_
          refine ds_goto (show decode mt_X9_worst.2.1 63 = .ok (.goto 25, 3) from ds_dec (i := (63, .goto 25, 3, 0, 0, 0, .int 0)) ok_X9_worst 31 rfl) (t := 88) (by decide) ?_
          exact ds_lret (show decode mt_X9_worst.2.1 88 = .ok (.lreturn, 1) from ds_dec (i := (88, .lreturn, 1, 0, 0, 0, .int 0)) ok_X9_worst 46 rfl) rfl h
      · replace h := h.2 hc
        refine ds_blk (ls2 := [some (.ref 0), some (.int a1), some (.int a2)]) (st2 := [.int a2]) (σ2 := σ3) ok_X9_worst 19 1 37 38 [] rfl rfl rfl rfl trivial ?_
        refine ds_if_ne (show decode mt_X9_worst.2.1 38 = .ok (.ifCond .ne 10, 3) from ds_dec (i := (38, .ifCond .ne 10, 3, 0, 0, 0, .int 0)) ok_X9_worst 20 rfl) (t := 48) (by decide) (fun hc => ?_) (fun hc => ?_)
        · replace h := h.1 hc
          refine ds_blk (ls2 := [some (.ref 0), some (.int a1), some (.int a2)]) (st2 := [.long (σ3.2 0 20)]) (σ2 := σ3) ok_X9_worst 24 2 48 52 [ds_k Ym 0 9] rfl rfl rfl rfl ⟨⟨by decide, rfl⟩, trivial⟩ ?_
          exact ds_lret (show decode mt_X9_worst.2.1 52 = .ok (.lreturn, 1) from ds_dec (i := (52, .lreturn, 1, 0, 0, 0, .int 0)) ok_X9_worst 26 rfl) rfl h
        · replace h := h.2 hc
          refine ds_blk (ls2 := [some (.ref 0), some (.int a1), some (.int a2)]) (st2 := [.long (σ3.2 0 19)]) (σ2 := σ3) ok_X9_worst 21 2 41 45 [ds_k Ym 0 9] rfl rfl rfl rfl ⟨⟨by decide, rfl⟩, trivial⟩ ?_
          refine ds_goto (show decode mt_X9_worst.2.1 45 = .ok (.goto 7, 3) from ds_dec (i := (45, .goto 7, 3, 0, 0, 0, .int 0)) ok_X9_worst 23 rfl) (t := 52) (by decide) ?_
          exact ds_lret (show decode mt_X9_worst.2.1 52 = .ok (.lreturn, 1) from ds_dec (i := (52, .lreturn, 1, 0, 0, 0, .int 0)) ok_X9_worst 26 rfl) rfl h
    · replace h := h.2 hc
      refine ds_blk (ls2 := [some (.ref 0), some (.int a1), some (.int a2)]) (st2 := [.long (-1000000000000000002 : Int64)]) (σ2 := σ) ok_X9_worst 11 1 23 26 [] rfl rfl rfl rfl trivial ?_
      exact ds_lret (show decode mt_X9_worst.2.1 26 = .ok (.lreturn, 1) from ds_dec (i := (26, .lreturn, 1, 0, 0, 0, .int 0)) ok_X9_worst 12 rfl) rfl h
  · replace h := h.2 hc
    refine ds_blk (ls2 := [some (.ref 0), some (.int a1), some (.int a2)]) (st2 := [.long (-1000000000000000001 : Int64)]) (σ2 := σ) ok_X9_worst 3 1 7 10 [] rfl rfl rfl rfl trivial ?_
    exact ds_lret (show decode mt_X9_worst.2.1 10 = .ok (.lreturn, 1) from ds_dec (i := (10, .lreturn, 1, 0, 0, 0, .int 0)) ok_X9_worst 4 rfl) rfl h
def w_X9_guard_12 (v1 : Int32) (t0 : Int32) (σ : ds_S) (Q : Option Value → ds_S → Prop) : Prop := (v1 = 0 ∨ v1 = 1) ∧ Q (some (.int t0)) (ds_wi (ds_wi σ 0 9 v1) 0 10 (0 : Int32))
theorem x_X9_guard_12 (v1 : Int32) (t0 : Int32) (g2 : Option Value) (σ : ds_S) (Q : Option Value → ds_S → Prop) (h : w_X9_guard_12 v1 t0 σ Q) : ds_X mt_X9_guard Ym 12 [some (.ref 0), some (.int v1), g2] [.int t0] σ Q := by
  unfold w_X9_guard_12 at h
  obtain ⟨o1, h⟩ := h
  refine ds_blk (ls2 := [some (.ref 0), some (.int v1), some (.int t0)]) (st2 := [.int t0]) (σ2 := (ds_wi (ds_wi σ 0 9 v1) 0 10 (0 : Int32))) ok_X9_guard 6 8 12 24 [ds_k Ym 0 9, v1 = 0 ∨ v1 = 1, ds_k Ym 0 9, (0 : Int32) = 0 ∨ (0 : Int32) = 1] rfl rfl rfl rfl ⟨⟨by decide, rfl⟩, o1, ⟨by decide, rfl⟩, (by decide), trivial⟩ ?_
  exact ds_iret (show decode mt_X9_guard.2.1 24 = .ok (.ireturn, 1) from ds_dec (i := (24, .ireturn, 1, 0, 0, 0, .int 0)) ok_X9_guard 14 rfl) rfl h
def w_X9_guard (a1 : Int32) (σ : ds_S) (Q : Option Value → ds_S → Prop) : Prop := (((σ.1 0 9) = 0 → w_X9_guard_12 a1 (0 : Int32) σ Q) ∧ (¬ (σ.1 0 9) = 0 → w_X9_guard_12 a1 (1 : Int32) σ Q))
theorem e_X9_guard (a1 : Int32) (σ : ds_S) (Q : Option Value → ds_S → Prop) (h : w_X9_guard a1 σ Q) : ds_E mt_X9_guard Ym [.ref 0, .int a1] σ Q := by
  refine ds_enter (by decide) (Nat.le_of_ble_eq_true rfl) ?_
  show ds_X mt_X9_guard Ym 0 [some (.ref 0), some (.int a1), none] [] σ Q
  unfold w_X9_guard at h
  refine ds_blk (ls2 := [some (.ref 0), some (.int a1), none]) (st2 := [.int (σ.1 0 9)]) (σ2 := σ) ok_X9_guard 0 2 0 4 [ds_k Ym 0 9] rfl rfl rfl rfl ⟨⟨by decide, rfl⟩, trivial⟩ ?_
  refine ds_if_eq (show decode mt_X9_guard.2.1 4 = .ok (.ifCond .eq 7, 3) from ds_dec (i := (4, .ifCond .eq 7, 3, 0, 0, 0, .int 0)) ok_X9_guard 2 rfl) (t := 11) (by decide) (fun hc => ?_) (fun hc => ?_)
  · replace h := h.1 hc
    refine ds_blk (ls2 := [some (.ref 0), some (.int a1), none]) (st2 := [.int (0 : Int32)]) (σ2 := σ) ok_X9_guard 5 1 11 12 [] rfl rfl rfl rfl trivial ?_
    refine x_X9_guard_12 a1 (0 : Int32) _ σ Q h
  · replace h := h.2 hc
    refine ds_blk (ls2 := [some (.ref 0), some (.int a1), none]) (st2 := [.int (1 : Int32)]) (σ2 := σ) ok_X9_guard 3 1 7 8 [] rfl rfl rfl rfl trivial ?_
    refine ds_goto (show decode mt_X9_guard.2.1 8 = .ok (.goto 4, 3) from ds_dec (i := (8, .goto 4, 3, 0, 0, 0, .int 0)) ok_X9_guard 4 rfl) (t := 12) (by decide) ?_
    refine x_X9_guard_12 a1 (1 : Int32) _ σ Q h
def w_X9_findAll_73 (v1 : Int32) (v2 : Int32) (t0 : Int32) (σ : ds_S) (Q : Option Value → ds_S → Prop) (K30 : Int32 → Int32 → ds_S → Prop) : Prop := ds_EV mt_X9_findWorst Ym [.ref 0, .int v1] (ds_wi σ 0 13 t0) (fun σ1 => 0 ≤ (σ1.2 0 19) ∧ 0 < (σ1.2 0 20) ∧ 0 ≤ (σ1.2 0 22) ∧ 0 < (σ1.2 0 23) ∧ (((q_gt (σ1.2 0 19) (σ1.2 0 20) (σ1.2 0 22) (σ1.2 0 23)) = 0 → K30 v1 (v2 + (1 : Int32)) (ds_wi σ1 0 13 (-6 : Int32))) ∧ (¬ (q_gt (σ1.2 0 19) (σ1.2 0 20) (σ1.2 0 22) (σ1.2 0 23)) = 0 → ((0 ≤ v2 → K30 v1 (v2 + (1 : Int32)) (ds_wi (ds_wi (ds_wl (ds_wl (ds_wi σ1 0 13 (-6 : Int32)) 0 22 (σ1.2 0 19)) 0 23 (σ1.2 0 20)) 0 24 v1) 0 25 v2)) ∧ (¬ 0 ≤ v2 → K30 v1 (v2 + (1 : Int32)) (ds_wi (ds_wi (ds_wl (ds_wl (ds_wi σ1 0 13 (-6 : Int32)) 0 22 (σ1.2 0 19)) 0 23 (σ1.2 0 20)) 0 24 v1) 0 25 (-6 : Int32)))))))
theorem x_X9_findAll_73 (v1 : Int32) (v2 : Int32) (t0 : Int32) (σ : ds_S) (Q : Option Value → ds_S → Prop) (K30 : Int32 → Int32 → ds_S → Prop) (hK30 : ∀ (v1 : Int32) (v2 : Int32) (σ2 : ds_S), K30 v1 v2 σ2 → ds_X mt_X9_findAll Ym 30 [some (.ref 0), some (.int v1), some (.int v2)] [] σ2 Q) (h : w_X9_findAll_73 v1 v2 t0 σ Q K30) : ds_X mt_X9_findAll Ym 73 [some (.ref 0), some (.int v1), some (.int v2)] [.int t0, .ref 0] σ Q := by
  unfold w_X9_findAll_73 at h
  refine ds_blk (ls2 := [some (.ref 0), some (.int v1), some (.int v2)]) (st2 := [.int v1, .ref 0]) (σ2 := (ds_wi σ 0 13 t0)) ok_X9_findAll 41 3 73 78 [ds_k Ym 0 9] rfl rfl rfl rfl ⟨⟨by decide, rfl⟩, trivial⟩ ?_
  refine ds_callV (z := mt_X9_findWorst) (b := 0) (as := [.int v1]) (rest := []) (show decode mt_X9_findAll.2.1 78 = .ok (.invokevirtual 167, 3) from ds_dec (i := (78, .invokevirtual 167, 3, 0, 0, 938, .int 0)) ok_X9_findAll 44 rfl) (ds_E.mono h (fun r σ1 hr => ?_)) ⟨zw_X9_findWorst.1, zw_X9_findWorst.2.1, zw_X9_findWorst.2.2, by decide, by decide⟩ (ds_wb_T (p := 938) (by decide +kernel)) zi_X9_findWorst zs_X9_findWorst (by decide) rfl ⟨_, rfl, rfl⟩ (Nat.le_of_ble_eq_true rfl)
  obtain ⟨rfl, h⟩ := hr
  show ds_X mt_X9_findAll Ym 81 [some (.ref 0), some (.int v1), some (.int v2)] [] σ1 Q
  refine ds_blk (ls2 := [some (.ref 0), some (.int v1), some (.int v2)]) (st2 := [.long (σ1.2 0 23), .long (σ1.2 0 22), .long (σ1.2 0 20), .long (σ1.2 0 19)]) (σ2 := (ds_wi σ1 0 13 (-6 : Int32))) ok_X9_findAll 45 11 81 103 [ds_k Ym 0 9, ds_k Ym 0 9, ds_k Ym 0 9, ds_k Ym 0 9, ds_k Ym 0 9] rfl rfl rfl rfl ⟨⟨by decide, rfl⟩, ⟨by decide, rfl⟩, ⟨by decide, rfl⟩, ⟨by decide, rfl⟩, ⟨by decide, rfl⟩, trivial⟩ ?_
  obtain ⟨o1, o2, o3, o4, h⟩ := h
  refine ds_callS (z := mt_X9_isGreater) (as := [.long (σ1.2 0 19), .long (σ1.2 0 20), .long (σ1.2 0 22), .long (σ1.2 0 23)]) (rest := []) (show decode mt_X9_findAll.2.1 103 = .ok (.invokestatic 161, 3) from ds_dec (i := (103, .invokestatic 161, 3, 0, 0, 942, .int 0)) ok_X9_findAll 56 rfl) (ds_E.mono (sp_X9_isGreater (σ1.2 0 19) (σ1.2 0 20) (σ1.2 0 22) (σ1.2 0 23) (ds_wi σ1 0 13 (-6 : Int32)) o1 o2 o3 o4) (fun r σ2 hr => ?_)) ⟨zw_X9_isGreater.1, zw_X9_isGreater.2.1, zw_X9_isGreater.2.2, by decide, by decide⟩ (ds_wb_T (p := 942) (by decide +kernel)) zt_X9_isGreater (Nat.le_of_ble_eq_true rfl)
  obtain ⟨x9, rfl, e8, e9⟩ := hr
  rw [e8, e9]
  show ds_X mt_X9_findAll Ym 106 [some (.ref 0), some (.int v1), some (.int v2)] [.int (q_gt (σ1.2 0 19) (σ1.2 0 20) (σ1.2 0 22) (σ1.2 0 23))] (ds_wi σ1 0 13 (-6 : Int32)) Q
  refine ds_if_eq (show decode mt_X9_findAll.2.1 106 = .ok (.ifCond .eq 38, 3) from ds_dec (i := (106, .ifCond .eq 38, 3, 0, 0, 0, .int 0)) ok_X9_findAll 57 rfl) (t := 144) (by decide) (fun hc => ?_) (fun hc => ?_)
  · replace h := h.1 hc
    refine ds_blk (ls2 := [some (.ref 0), some (.int v1), some (.int (v2 + (1 : Int32)))]) (st2 := []) (σ2 := (ds_wi σ1 0 13 (-6 : Int32))) ok_X9_findAll 76 1 144 147 [] rfl rfl rfl rfl trivial ?_
    refine ds_goto (show decode mt_X9_findAll.2.1 147 = .ok (.goto (-117), 3) from ds_dec (i := (147, .goto (-117), 3, 0, 0, 0, .int 0)) ok_X9_findAll 77 rfl) (t := 30) (by decide) ?_
    exact hK30 v1 (v2 + (1 : Int32)) (ds_wi σ1 0 13 (-6 : Int32)) h
  · replace h := h.2 hc
    refine ds_blk (ls2 := [some (.ref 0), some (.int v1), some (.int v2)]) (st2 := [.int v2, .ref 0]) (σ2 := (ds_wi (ds_wl (ds_wl (ds_wi σ1 0 13 (-6 : Int32)) 0 22 (σ1.2 0 19)) 0 23 (σ1.2 0 20)) 0 24 v1)) ok_X9_findAll 58 13 109 132 [ds_k Ym 0 9, ds_k Ym 0 9, ds_k Ym 0 9, ds_k Ym 0 9, ds_k Ym 0 9] rfl rfl rfl rfl ⟨⟨by decide, rfl⟩, ⟨by decide, rfl⟩, ⟨by decide, rfl⟩, ⟨by decide, rfl⟩, ⟨by decide, rfl⟩, trivial⟩ ?_
    refine ds_if_ge (show decode mt_X9_findAll.2.1 132 = .ok (.ifCond .ge 8, 3) from ds_dec (i := (132, .ifCond .ge 8, 3, 0, 0, 0, .int 0)) ok_X9_findAll 71 rfl) (t := 140) (by decide) (fun hc => ?_) (fun hc => ?_)
    · replace h := h.1 hc
      refine ds_blk (ls2 := [some (.ref 0), some (.int v1), some (.int (v2 + (1 : Int32)))]) (st2 := []) (σ2 := (ds_wi (ds_wi (ds_wl (ds_wl (ds_wi σ1 0 13 (-6 : Int32)) 0 22 (σ1.2 0 19)) 0 23 (σ1.2 0 20)) 0 24 v1) 0 25 v2)) ok_X9_findAll 74 3 140 147 [ds_k Ym 0 9] rfl rfl rfl rfl ⟨⟨by decide, rfl⟩, trivial⟩ ?_
      refine ds_goto (show decode mt_X9_findAll.2.1 147 = .ok (.goto (-117), 3) from ds_dec (i := (147, .goto (-117), 3, 0, 0, 0, .int 0)) ok_X9_findAll 77 rfl) (t := 30) (by decide) ?_
      exact hK30 v1 (v2 + (1 : Int32)) (ds_wi (ds_wi (ds_wl (ds_wl (ds_wi σ1 0 13 (-6 : Int32)) 0 22 (σ1.2 0 19)) 0 23 (σ1.2 0 20)) 0 24 v1) 0 25 v2) h
    · replace h := h.2 hc
      refine ds_blk (ls2 := [some (.ref 0), some (.int v1), some (.int v2)]) (st2 := [.int (-6 : Int32), .ref 0]) (σ2 := (ds_wi (ds_wl (ds_wl (ds_wi σ1 0 13 (-6 : Int32)) 0 22 (σ1.2 0 19)) 0 23 (σ1.2 0 20)) 0 24 v1)) ok_X9_findAll 72 1 135 137 [] rfl rfl rfl rfl trivial ?_
      refine ds_goto (show decode mt_X9_findAll.2.1 137 = .ok (.goto 4, 3) from ds_dec (i := (137, .goto 4, 3, 0, 0, 0, .int 0)) ok_X9_findAll 73 rfl) (t := 141) (by decide) ?_
      refine ds_blk (ls2 := [some (.ref 0), some (.int v1), some (.int (v2 + (1 : Int32)))]) (st2 := []) (σ2 := (ds_wi (ds_wi (ds_wl (ds_wl (ds_wi σ1 0 13 (-6 : Int32)) 0 22 (σ1.2 0 19)) 0 23 (σ1.2 0 20)) 0 24 v1) 0 25 (-6 : Int32))) ok_X9_findAll 75 2 141 147 [ds_k Ym 0 9] rfl rfl rfl rfl ⟨⟨by decide, rfl⟩, trivial⟩ ?_
      refine ds_goto (show decode mt_X9_findAll.2.1 147 = .ok (.goto (-117), 3) from ds_dec (i := (147, .goto (-117), 3, 0, 0, 0, .int 0)) ok_X9_findAll 77 rfl) (t := 30) (by decide) ?_
      exact hK30 v1 (v2 + (1 : Int32)) (ds_wi (ds_wi (ds_wl (ds_wl (ds_wi σ1 0 13 (-6 : Int32)) 0 22 (σ1.2 0 19)) 0 23 (σ1.2 0 20)) 0 24 v1) 0 25 (-6 : Int32)) h
def w_X9_findAll_62 (v1 : Int32) (v2 : Int32) (σ : ds_S) (Q : Option Value → ds_S → Prop) (K30 : Int32 → Int32 → ds_S → Prop) : Prop := ((0 ≤ v2 → w_X9_findAll_73 v1 v2 v2 σ Q K30) ∧ (¬ 0 ≤ v2 → w_X9_findAll_73 v1 v2 (-6 : Int32) σ Q K30))
theorem x_X9_findAll_62 (v1 : Int32) (v2 : Int32) (σ : ds_S) (Q : Option Value → ds_S → Prop) (K30 : Int32 → Int32 → ds_S → Prop) (hK30 : ∀ (v1 : Int32) (v2 : Int32) (σ2 : ds_S), K30 v1 v2 σ2 → ds_X mt_X9_findAll Ym 30 [some (.ref 0), some (.int v1), some (.int v2)] [] σ2 Q) (h : w_X9_findAll_62 v1 v2 σ Q K30) : ds_X mt_X9_findAll Ym 62 [some (.ref 0), some (.int v1), some (.int v2)] [] σ Q := by
  unfold w_X9_findAll_62 at h
  refine ds_blk (ls2 := [some (.ref 0), some (.int v1), some (.int v2)]) (st2 := [.int v2, .ref 0]) (σ2 := σ) ok_X9_findAll 35 2 62 64 [] rfl rfl rfl rfl trivial ?_
  refine ds_if_ge (show decode mt_X9_findAll.2.1 64 = .ok (.ifCond .ge 8, 3) from ds_dec (i := (64, .ifCond .ge 8, 3, 0, 0, 0, .int 0)) ok_X9_findAll 37 rfl) (t := 72) (by decide) (fun hc => ?_) (fun hc => ?_)
  · replace h := h.1 hc
    refine ds_blk (ls2 := [some (.ref 0), some (.int v1), some (.int v2)]) (st2 := [.int v2, .ref 0]) (σ2 := σ) ok_X9_findAll 40 1 72 73 [] rfl rfl rfl rfl trivial ?_
    refine x_X9_findAll_73 v1 v2 v2 σ Q K30 hK30 h
  · replace h := h.2 hc
    refine ds_blk (ls2 := [some (.ref 0), some (.int v1), some (.int v2)]) (st2 := [.int (-6 : Int32), .ref 0]) (σ2 := σ) ok_X9_findAll 38 1 67 69 [] rfl rfl rfl rfl trivial ?_
    refine ds_goto (show decode mt_X9_findAll.2.1 69 = .ok (.goto 4, 3) from ds_dec (i := (69, .goto 4, 3, 0, 0, 0, .int 0)) ok_X9_findAll 39 rfl) (t := 73) (by decide) ?_
    refine x_X9_findAll_73 v1 v2 (-6 : Int32) σ Q K30 hK30 h
def w_X9_findAll_46 (v1 : Int32) (v2 : Int32) (t0 : Int32) (t1 : Int32) (σ : ds_S) (Q : Option Value → ds_S → Prop) (K30 : Int32 → Int32 → ds_S → Prop) (K150 : Int32 → ds_S → Prop) : Prop := ((t0 ≤ t1 → K150 v1 σ) ∧ (¬ t0 ≤ t1 → ((v2 < 0 → w_X9_findAll_62 v1 v2 σ Q K30) ∧ (¬ v2 < 0 → vp_in v2 10 ∧ ((¬ (σ.1 6 v2.toNatClampNeg) = 0 → K30 v1 (v2 + (1 : Int32)) σ) ∧ ((σ.1 6 v2.toNatClampNeg) = 0 → w_X9_findAll_62 v1 v2 σ Q K30))))))
theorem x_X9_findAll_46 (v1 : Int32) (v2 : Int32) (t0 : Int32) (t1 : Int32) (σ : ds_S) (Q : Option Value → ds_S → Prop) (K30 : Int32 → Int32 → ds_S → Prop) (K150 : Int32 → ds_S → Prop) (hK30 : ∀ (v1 : Int32) (v2 : Int32) (σ2 : ds_S), K30 v1 v2 σ2 → ds_X mt_X9_findAll Ym 30 [some (.ref 0), some (.int v1), some (.int v2)] [] σ2 Q) (hK150 : ∀ (v1 : Int32) (g2 : Option Value) (σ2 : ds_S), K150 v1 σ2 → ds_X mt_X9_findAll Ym 150 [some (.ref 0), some (.int v1), g2] [] σ2 Q) (h : w_X9_findAll_46 v1 v2 t0 t1 σ Q K30 K150) : ds_X mt_X9_findAll Ym 46 [some (.ref 0), some (.int v1), some (.int v2)] [.int t0, .int t1] σ Q := by
  unfold w_X9_findAll_46 at h
  refine ds_ic_ge (show decode mt_X9_findAll.2.1 46 = .ok (.if_icmp .ge 104, 3) from ds_dec (i := (46, .if_icmp .ge 104, 3, 0, 0, 0, .int 0)) ok_X9_findAll 27 rfl) (t := 150) (by decide) (fun hc => ?_) (fun hc => ?_)
  · replace h := h.1 hc
    exact hK150 v1 _ σ h
  · replace h := h.2 hc
    refine ds_blk (ls2 := [some (.ref 0), some (.int v1), some (.int v2)]) (st2 := [.int v2]) (σ2 := σ) ok_X9_findAll 28 1 49 50 [] rfl rfl rfl rfl trivial ?_
    refine ds_if_lt (show decode mt_X9_findAll.2.1 50 = .ok (.ifCond .lt 12, 3) from ds_dec (i := (50, .ifCond .lt 12, 3, 0, 0, 0, .int 0)) ok_X9_findAll 29 rfl) (t := 62) (by decide) (fun hc => ?_) (fun hc => ?_)
    · replace h := h.1 hc
      refine x_X9_findAll_62 v1 v2 σ Q K30 hK30 h
    · replace h := h.2 hc
      obtain ⟨o1, h⟩ := h
      refine ds_blk (ls2 := [some (.ref 0), some (.int v1), some (.int v2)]) (st2 := [.int (σ.1 6 v2.toNatClampNeg)]) (σ2 := σ) ok_X9_findAll 30 4 53 59 [ds_k Ym 0 9, ds_k Ym 6 12, vp_in v2 10] rfl rfl rfl rfl ⟨⟨by decide, rfl⟩, ⟨by decide, rfl⟩, o1, trivial⟩ ?_
      refine ds_if_ne (show decode mt_X9_findAll.2.1 59 = .ok (.ifCond .ne 85, 3) from ds_dec (i := (59, .ifCond .ne 85, 3, 0, 0, 0, .int 0)) ok_X9_findAll 34 rfl) (t := 144) (by decide) (fun hc => ?_) (fun hc => ?_)
      · replace h := h.1 hc
        refine ds_blk (ls2 := [some (.ref 0), some (.int v1), some (.int (v2 + (1 : Int32)))]) (st2 := []) (σ2 := σ) ok_X9_findAll 76 1 144 147 [] rfl rfl rfl rfl trivial ?_
        refine ds_goto (show decode mt_X9_findAll.2.1 147 = .ok (.goto (-117), 3) from ds_dec (i := (147, .goto (-117), 3, 0, 0, 0, .int 0)) ok_X9_findAll 77 rfl) (t := 30) (by decide) ?_
        exact hK30 v1 (v2 + (1 : Int32)) σ h
      · replace h := h.2 hc
        refine x_X9_findAll_62 v1 v2 σ Q K30 hK30 h
def w_X9_findAll_30 : Nat → (v1 : Int32) → (v2 : Int32) → (σ : ds_S) → (Q : Option Value → ds_S → Prop) → (K150 : Int32 → ds_S → Prop) → Prop
  | 0, _, _, _, _, _ => False
  | f + 1, v1, v2, σ, Q, K150 => (((σ.1 0 9) = 0 → w_X9_findAll_46 v1 v2 (0 : Int32) v2 σ Q (fun v1_1 v2_1 σ1 => w_X9_findAll_30 f v1_1 v2_1 σ1 Q K150) K150) ∧ (¬ (σ.1 0 9) = 0 → w_X9_findAll_46 v1 v2 (σ.1 0 7) v2 σ Q (fun v1_2 v2_2 σ2 => w_X9_findAll_30 f v1_2 v2_2 σ2 Q K150) K150))
theorem x_X9_findAll_30 : ∀ (f : Nat) (v1 : Int32) (v2 : Int32) (σ : ds_S) (Q : Option Value → ds_S → Prop) (K150 : Int32 → ds_S → Prop) (hK150 : ∀ (v1 : Int32) (g2 : Option Value) (σ2 : ds_S), K150 v1 σ2 → ds_X mt_X9_findAll Ym 150 [some (.ref 0), some (.int v1), g2] [] σ2 Q), w_X9_findAll_30 f v1 v2 σ Q K150 → ds_X mt_X9_findAll Ym 30 [some (.ref 0), some (.int v1), some (.int v2)] [] σ Q := by
  intro f
  induction f with
  | zero => intro v1 v2 σ Q K150 hK150 h; exact False.elim h
  | succ f ih =>
    intro v1 v2 σ Q K150 hK150 h
    rw [w_X9_findAll_30] at h
    refine ds_blk (ls2 := [some (.ref 0), some (.int v1), some (.int v2)]) (st2 := [.int (σ.1 0 9), .int v2]) (σ2 := σ) ok_X9_findAll 19 3 30 35 [ds_k Ym 0 9] rfl rfl rfl rfl ⟨⟨by decide, rfl⟩, trivial⟩ ?_
    refine ds_if_eq (show decode mt_X9_findAll.2.1 35 = .ok (.ifCond .eq 10, 3) from ds_dec (i := (35, .ifCond .eq 10, 3, 0, 0, 0, .int 0)) ok_X9_findAll 22 rfl) (t := 45) (by decide) (fun hc => ?_) (fun hc => ?_)
    · replace h := h.1 hc
      refine ds_blk (ls2 := [some (.ref 0), some (.int v1), some (.int v2)]) (st2 := [.int (0 : Int32), .int v2]) (σ2 := σ) ok_X9_findAll 26 1 45 46 [] rfl rfl rfl rfl trivial ?_
      refine x_X9_findAll_46 v1 v2 (0 : Int32) v2 σ Q _ K150 ?_ hK150 h
      · intro v1_1 v2_1 σ1 h
        exact ih v1_1 v2_1 σ1 Q K150 hK150 h
    · replace h := h.2 hc
      refine ds_blk (ls2 := [some (.ref 0), some (.int v1), some (.int v2)]) (st2 := [.int (σ.1 0 7), .int v2]) (σ2 := σ) ok_X9_findAll 23 2 38 42 [ds_k Ym 0 9] rfl rfl rfl rfl ⟨⟨by decide, rfl⟩, trivial⟩ ?_
      refine ds_goto (show decode mt_X9_findAll.2.1 42 = .ok (.goto 4, 3) from ds_dec (i := (42, .goto 4, 3, 0, 0, 0, .int 0)) ok_X9_findAll 25 rfl) (t := 46) (by decide) ?_
      refine x_X9_findAll_46 v1 v2 (σ.1 0 7) v2 σ Q _ K150 ?_ hK150 h
      · intro v1_2 v2_2 σ2 h
        exact ih v1_2 v2_2 σ2 Q K150 hK150 h
def w_X9_findAll_23 : Nat → (v1 : Int32) → (σ : ds_S) → (Q : Option Value → ds_S → Prop) → Prop
  | 0, _, _, _ => False
  | f + 1, v1, σ, Q => (((3 : Int32) ≤ v1 → Q none σ) ∧ (¬ (3 : Int32) ≤ v1 → ∃ n, w_X9_findAll_30 n v1 (-1 : Int32) σ Q (fun v1_1 σ1 => w_X9_findAll_23 f (v1_1 + (1 : Int32)) σ1 Q)))
theorem x_X9_findAll_23 : ∀ (f : Nat) (v1 : Int32) (g2 : Option Value) (σ : ds_S) (Q : Option Value → ds_S → Prop), w_X9_findAll_23 f v1 σ Q → ds_X mt_X9_findAll Ym 23 [some (.ref 0), some (.int v1), g2] [] σ Q := by
  intro f
  induction f with
  | zero => intro v1 g2 σ Q h; exact False.elim h
  | succ f ih =>
    intro v1 g2 σ Q h
    rw [w_X9_findAll_23] at h
    refine ds_blk (ls2 := [some (.ref 0), some (.int v1), g2]) (st2 := [.int (3 : Int32), .int v1]) (σ2 := σ) ok_X9_findAll 14 2 23 25 [] rfl rfl rfl rfl trivial ?_
    refine ds_ic_ge (show decode mt_X9_findAll.2.1 25 = .ok (.if_icmp .ge 131, 3) from ds_dec (i := (25, .if_icmp .ge 131, 3, 0, 0, 0, .int 0)) ok_X9_findAll 16 rfl) (t := 156) (by decide) (fun hc => ?_) (fun hc => ?_)
    · replace h := h.1 hc
      exact ds_vret (show decode mt_X9_findAll.2.1 156 = .ok (.return_, 1) from ds_dec (i := (156, .return_, 1, 0, 0, 0, .int 0)) ok_X9_findAll 80 rfl) rfl h
    · replace h := h.2 hc
      refine ds_blk (ls2 := [some (.ref 0), some (.int v1), some (.int (-1 : Int32))]) (st2 := []) (σ2 := σ) ok_X9_findAll 17 2 28 30 [] rfl rfl rfl rfl trivial ?_
      obtain ⟨n, h⟩ := h
      refine x_X9_findAll_30 n v1 (-1 : Int32) σ Q _ ?_ h
      · intro v1_1 g2_1 σ1 h
        refine ds_blk (ls2 := [some (.ref 0), some (.int (v1_1 + (1 : Int32))), g2_1]) (st2 := []) (σ2 := σ1) ok_X9_findAll 78 1 150 153 [] rfl rfl rfl rfl trivial ?_
        refine ds_goto (show decode mt_X9_findAll.2.1 153 = .ok (.goto (-130), 3) from ds_dec (i := (153, .goto (-130), 3, 0, 0, 0, .int 0)) ok_X9_findAll 79 rfl) (t := 23) (by decide) ?_
        exact ih (v1_1 + (1 : Int32)) _ σ1 Q h
def w_X9_findAll (σ : ds_S) (Q : Option Value → ds_S → Prop) : Prop := ∃ n, w_X9_findAll_23 n (0 : Int32) (ds_wi (ds_wi (ds_wl (ds_wl σ 0 22 (0 : Int64)) 0 23 (1 : Int64)) 0 24 (0 : Int32)) 0 25 (-6 : Int32)) Q
theorem e_X9_findAll (σ : ds_S) (Q : Option Value → ds_S → Prop) (h : w_X9_findAll σ Q) : ds_E mt_X9_findAll Ym [.ref 0] σ Q := by
  refine ds_enter (by decide) (Nat.le_of_ble_eq_true rfl) ?_
  show ds_X mt_X9_findAll Ym 0 [some (.ref 0), none, none] [] σ Q
  unfold w_X9_findAll at h
  refine ds_blk (ls2 := [some (.ref 0), some (.int (0 : Int32)), none]) (st2 := []) (σ2 := (ds_wi (ds_wi (ds_wl (ds_wl σ 0 22 (0 : Int64)) 0 23 (1 : Int64)) 0 24 (0 : Int32)) 0 25 (-6 : Int32))) ok_X9_findAll 0 14 0 23 [ds_k Ym 0 9, ds_k Ym 0 9, ds_k Ym 0 9, ds_k Ym 0 9] rfl rfl rfl rfl ⟨⟨by decide, rfl⟩, ⟨by decide, rfl⟩, ⟨by decide, rfl⟩, ⟨by decide, rfl⟩, trivial⟩ ?_
  obtain ⟨n, h⟩ := h
  refine x_X9_findAll_23 n (0 : Int32) _ (ds_wi (ds_wi (ds_wl (ds_wl σ 0 22 (0 : Int64)) 0 23 (1 : Int64)) 0 24 (0 : Int32)) 0 25 (-6 : Int32)) Q h
