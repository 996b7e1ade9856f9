def w_X0_sendOne (a2 : Nat) (a3 : Int32) (σ : ds_S) (Q : Option Value → ds_S → Prop) : Prop := ds_EV mt_J7_fill_d0a16 Yc [.ref 10, .long (0 : Int64)] σ (fun σ1 => ds_EV mt_J7_fill_d0a16 Yc [.ref 9, .long (0 : Int64)] σ1 (fun σ2 => vp_in a3 6 ∧ ds_EV mt_X0_pass Yc [.ref 8, .ref 1, .ref a2] (ds_wl σ2 9 a3.toNatClampNeg (151200 : Int64)) (fun σ3 => Q none σ3)))
theorem e_X0_sendOne (a2 : Nat) (a3 : Int32) (σ : ds_S) (Q : Option Value → ds_S → Prop) (h : w_X0_sendOne a2 a3 σ Q) : ds_E mt_X0_sendOne Yc [.ref 8, .ref 1, .ref a2, .int a3] σ Q := by
  refine ds_enter (by decide) (Nat.le_of_ble_eq_true rfl) ?_
  show ds_X mt_X0_sendOne Yc 0 [some (.ref 8), some (.ref 1), some (.ref a2), some (.int a3)] [] σ Q
  unfold w_X0_sendOne at h
  refine ds_blk (ls2 := [some (.ref 8), some (.ref 1), some (.ref a2), some (.int a3)]) (st2 := [.long (0 : Int64), .ref 10]) (σ2 := σ) ok_X0_sendOne 0 3 0 5 [ds_k Yc 8 0] rfl rfl rfl rfl ⟨⟨by decide, rfl⟩, trivial⟩ ?_
  refine ds_callS (z := mt_J7_fill_d0a16) (as := [.ref 10, .long (0 : Int64)]) (rest := []) (show decode mt_X0_sendOne.2.1 5 = .ok (.invokestatic 18, 3) from ds_dec (i := (5, .invokestatic 18, 3, 0, 0, 466, .int 0)) ok_X0_sendOne 3 rfl) (ds_E.mono h (fun r σ1 hr => ?_)) ⟨zw_J7_fill_d0a16.1, zw_J7_fill_d0a16.2.1, zw_J7_fill_d0a16.2.2, by decide, by decide⟩ (ds_wb_T (p := 466) (by decide +kernel)) zt_J7_fill_d0a16 (Nat.le_of_ble_eq_true rfl)
  obtain ⟨rfl, h⟩ := hr
  show ds_X mt_X0_sendOne Yc 8 [some (.ref 8), some (.ref 1), some (.ref a2), some (.int a3)] [] σ1 Q
  refine ds_blk (ls2 := [some (.ref 8), some (.ref 1), some (.ref a2), some (.int a3)]) (st2 := [.long (0 : Int64), .ref 9]) (σ2 := σ1) ok_X0_sendOne 4 3 8 13 [ds_k Yc 8 0] rfl rfl rfl rfl ⟨⟨by decide, rfl⟩, trivial⟩ ?_
  refine ds_callS (z := mt_J7_fill_d0a16) (as := [.ref 9, .long (0 : Int64)]) (rest := []) (show decode mt_X0_sendOne.2.1 13 = .ok (.invokestatic 18, 3) from ds_dec (i := (13, .invokestatic 18, 3, 0, 0, 466, .int 0)) ok_X0_sendOne 7 rfl) (ds_E.mono h (fun r σ2 hr => ?_)) ⟨zw_J7_fill_d0a16.1, zw_J7_fill_d0a16.2.1, zw_J7_fill_d0a16.2.2, by decide, by decide⟩ (ds_wb_T (p := 466) (by decide +kernel)) zt_J7_fill_d0a16 (Nat.le_of_ble_eq_true rfl)
  obtain ⟨rfl, h⟩ := hr
  show ds_X mt_X0_sendOne Yc 16 [some (.ref 8), some (.ref 1), some (.ref a2), some (.int a3)] [] σ2 Q
  obtain ⟨o1, h⟩ := h
  refine ds_blk (ls2 := [some (.ref 8), some (.ref 1), some (.ref a2), some (.int a3)]) (st2 := [.ref a2, .ref 1, .ref 8]) (σ2 := (ds_wl σ2 9 a3.toNatClampNeg (151200 : Int64))) ok_X0_sendOne 8 8 16 28 [ds_k Yc 8 0, ds_k Yc 9 11, vp_in a3 6] rfl rfl rfl rfl ⟨⟨by decide, rfl⟩, ⟨by decide, rfl⟩, o1, trivial⟩ ?_
  refine ds_callV (z := mt_X0_pass) (b := 8) (as := [.ref 1, .ref a2]) (rest := []) (show decode mt_X0_sendOne.2.1 28 = .ok (.invokevirtual 26, 3) from ds_dec (i := (28, .invokevirtual 26, 3, 0, 0, 470, .int 0)) ok_X0_sendOne 16 rfl) (ds_E.mono h (fun r σ3 hr => ?_)) ⟨zw_X0_pass.1, zw_X0_pass.2.1, zw_X0_pass.2.2, by decide, by decide⟩ (ds_wb_T (p := 470) (by decide +kernel)) zi_X0_pass zs_X0_pass (by decide) rfl ⟨_, rfl, rfl⟩ (Nat.le_of_ble_eq_true rfl)
  obtain ⟨rfl, h⟩ := hr
  show ds_X mt_X0_sendOne Yc 31 [some (.ref 8), some (.ref 1), some (.ref a2), some (.int a3)] [] σ3 Q
  exact ds_vret (show decode mt_X0_sendOne.2.1 31 = .ok (.return_, 1) from ds_dec (i := (31, .return_, 1, 0, 0, 0, .int 0)) ok_X0_sendOne 17 rfl) rfl h
def w_X0_sendTable_11 : Nat → (a3 : Nat) → (v4 : Int32) → (σ : ds_S) → (Q : Option Value → ds_S → Prop) → Prop
  | 0, _, _, _, _ => False
  | f + 1, a3, v4, σ, Q => (((σ.1 1 0) ≤ v4 → Q none σ) ∧ (¬ (σ.1 1 0) ≤ v4 → ds_EI mt_X0_collect Yc [.ref 8, .ref 1, .ref a3, .int v4] σ (fun r1 σ1 => ((r1 = 0 → w_X0_sendTable_11 f a3 (v4 + (1 : Int32)) σ1 Q) ∧ (¬ r1 = 0 → vp_in v4 6 ∧ ds_EV mt_X0_pass Yc [.ref 8, .ref 1, .ref (Yc.2.2.2 7 v4.toNatClampNeg)] σ1 (fun σ2 => w_X0_sendTable_11 f a3 (v4 + (1 : Int32)) σ2 Q))))))
theorem x_X0_sendTable_11 : ∀ (f : Nat) (a3 : Nat) (v4 : Int32) (σ : ds_S) (Q : Option Value → ds_S → Prop), w_X0_sendTable_11 f a3 v4 σ Q → ds_X mt_X0_sendTable Yc 11 [some (.ref 8), some (.ref 1), some (.ref 6), some (.ref a3), some (.int v4)] [] σ Q := by
  intro f
  induction f with
  | zero => intro a3 v4 σ Q h; exact False.elim h
  | succ f ih =>
    intro a3 v4 σ Q h
    rw [w_X0_sendTable_11] at h
    refine ds_blk (ls2 := [some (.ref 8), some (.ref 1), some (.ref 6), some (.ref a3), some (.int v4)]) (st2 := [.int (σ.1 1 0), .int v4]) (σ2 := σ) ok_X0_sendTable 6 3 11 17 [ds_k Yc 1 1] rfl rfl rfl rfl ⟨⟨by decide, rfl⟩, trivial⟩ ?_
    refine ds_ic_ge (show decode mt_X0_sendTable.2.1 17 = .ok (.if_icmp .ge 32, 3) from ds_dec (i := (17, .if_icmp .ge 32, 3, 0, 0, 0, .int 0)) ok_X0_sendTable 9 rfl) (t := 49) (by decide) (fun hc => ?_) (fun hc => ?_)
    · replace h := h.1 hc
      exact ds_vret (show decode mt_X0_sendTable.2.1 49 = .ok (.return_, 1) from ds_dec (i := (49, .return_, 1, 0, 0, 0, .int 0)) ok_X0_sendTable 25 rfl) rfl h
    · replace h := h.2 hc
      refine ds_blk (ls2 := [some (.ref 8), some (.ref 1), some (.ref 6), some (.ref a3), some (.int v4)]) (st2 := [.int v4, .ref a3, .ref 1, .ref 8]) (σ2 := σ) ok_X0_sendTable 10 4 20 25 [] rfl rfl rfl rfl trivial ?_
      refine ds_callV (z := mt_X0_collect) (b := 8) (as := [.ref 1, .ref a3, .int v4]) (rest := []) (show decode mt_X0_sendTable.2.1 25 = .ok (.invokevirtual 36, 3) from ds_dec (i := (25, .invokevirtual 36, 3, 0, 0, 505, .int 0)) ok_X0_sendTable 14 rfl) (ds_E.mono h (fun r σ1 hr => ?_)) ⟨zw_X0_collect.1, zw_X0_collect.2.1, zw_X0_collect.2.2, by decide, by decide⟩ (ds_wb_T (p := 505) (by decide +kernel)) zi_X0_collect zs_X0_collect (by decide) rfl ⟨_, rfl, rfl⟩ (Nat.le_of_ble_eq_true rfl)
      obtain ⟨r1, rfl, h⟩ := hr
      show ds_X mt_X0_sendTable Yc 28 [some (.ref 8), some (.ref 1), some (.ref 6), some (.ref a3), some (.int v4)] [.int r1] σ1 Q
      refine ds_if_eq (show decode mt_X0_sendTable.2.1 28 = .ok (.ifCond .eq 15, 3) from ds_dec (i := (28, .ifCond .eq 15, 3, 0, 0, 0, .int 0)) ok_X0_sendTable 15 rfl) (t := 43) (by decide) (fun hc => ?_) (fun hc => ?_)
      · replace h := h.1 hc
        refine ds_blk (ls2 := [some (.ref 8), some (.ref 1), some (.ref 6), some (.ref a3), some (.int (v4 + (1 : Int32)))]) (st2 := []) (σ2 := σ1) ok_X0_sendTable 23 1 43 46 [] rfl rfl rfl rfl trivial ?_
        refine ds_goto (show decode mt_X0_sendTable.2.1 46 = .ok (.goto (-35), 3) from ds_dec (i := (46, .goto (-35), 3, 0, 0, 0, .int 0)) ok_X0_sendTable 24 rfl) (t := 11) (by decide) ?_
        exact ih a3 (v4 + (1 : Int32)) σ1 Q h
      · replace h := h.2 hc
        obtain ⟨o1, h⟩ := h
        refine ds_blk (ls2 := [some (.ref 8), some (.ref 1), some (.ref 6), some (.ref a3), some (.int v4)]) (st2 := [.ref (Yc.2.2.2 7 v4.toNatClampNeg), .ref 1, .ref 8]) (σ2 := σ1) ok_X0_sendTable 16 6 31 40 [ds_k Yc 6 4, ds_k Yc 7 13, vp_in v4 6] rfl rfl rfl rfl ⟨⟨by decide, rfl⟩, ⟨by decide, rfl⟩, o1, trivial⟩ ?_
        refine ds_callV (z := mt_X0_pass) (b := 8) (as := [.ref 1, .ref (Yc.2.2.2 7 v4.toNatClampNeg)]) (rest := []) (show decode mt_X0_sendTable.2.1 40 = .ok (.invokevirtual 26, 3) from ds_dec (i := (40, .invokevirtual 26, 3, 0, 0, 470, .int 0)) ok_X0_sendTable 22 rfl) (ds_E.mono h (fun r σ2 hr => ?_)) ⟨zw_X0_pass.1, zw_X0_pass.2.1, zw_X0_pass.2.2, by decide, by decide⟩ (ds_wb_T (p := 470) (by decide +kernel)) zi_X0_pass zs_X0_pass (by decide) rfl ⟨_, rfl, rfl⟩ (Nat.le_of_ble_eq_true rfl)
        obtain ⟨rfl, h⟩ := hr
        show ds_X mt_X0_sendTable Yc 43 [some (.ref 8), some (.ref 1), some (.ref 6), some (.ref a3), some (.int v4)] [] σ2 Q
        refine ds_blk (ls2 := [some (.ref 8), some (.ref 1), some (.ref 6), some (.ref a3), some (.int (v4 + (1 : Int32)))]) (st2 := []) (σ2 := σ2) ok_X0_sendTable 23 1 43 46 [] rfl rfl rfl rfl trivial ?_
        refine ds_goto (show decode mt_X0_sendTable.2.1 46 = .ok (.goto (-35), 3) from ds_dec (i := (46, .goto (-35), 3, 0, 0, 0, .int 0)) ok_X0_sendTable 24 rfl) (t := 11) (by decide) ?_
        exact ih a3 (v4 + (1 : Int32)) σ2 Q h
def w_X0_sendTable (a3 : Nat) (σ : ds_S) (Q : Option Value → ds_S → Prop) : Prop := ds_EV mt_J7_fill_d0a16 Yc [.ref 10, .long (0 : Int64)] σ (fun σ1 => ∃ n, w_X0_sendTable_11 n a3 (0 : Int32) σ1 Q)
theorem e_X0_sendTable (a3 : Nat) (σ : ds_S) (Q : Option Value → ds_S → Prop) (h : w_X0_sendTable a3 σ Q) : ds_E mt_X0_sendTable Yc [.ref 8, .ref 1, .ref 6, .ref a3] σ Q := by
  refine ds_enter (by decide) (Nat.le_of_ble_eq_true rfl) ?_
  show ds_X mt_X0_sendTable Yc 0 [some (.ref 8), some (.ref 1), some (.ref 6), some (.ref a3), none] [] σ Q
  unfold w_X0_sendTable at h
  refine ds_blk (ls2 := [some (.ref 8), some (.ref 1), some (.ref 6), some (.ref a3), none]) (st2 := [.long (0 : Int64), .ref 10]) (σ2 := σ) ok_X0_sendTable 0 3 0 5 [ds_k Yc 8 0] rfl rfl rfl rfl ⟨⟨by decide, rfl⟩, trivial⟩ ?_
  refine ds_callS (z := mt_J7_fill_d0a16) (as := [.ref 10, .long (0 : Int64)]) (rest := []) (show decode mt_X0_sendTable.2.1 5 = .ok (.invokestatic 18, 3) from ds_dec (i := (5, .invokestatic 18, 3, 0, 0, 466, .int 0)) ok_X0_sendTable 3 rfl) (ds_E.mono h (fun r σ1 hr => ?_)) ⟨zw_J7_fill_d0a16.1, zw_J7_fill_d0a16.2.1, zw_J7_fill_d0a16.2.2, by decide, by decide⟩ (ds_wb_T (p := 466) (by decide +kernel)) zt_J7_fill_d0a16 (Nat.le_of_ble_eq_true rfl)
  obtain ⟨rfl, h⟩ := hr
  show ds_X mt_X0_sendTable Yc 8 [some (.ref 8), some (.ref 1), some (.ref 6), some (.ref a3), none] [] σ1 Q
  refine ds_blk (ls2 := [some (.ref 8), some (.ref 1), some (.ref 6), some (.ref a3), some (.int (0 : Int32))]) (st2 := []) (σ2 := σ1) ok_X0_sendTable 4 2 8 11 [] rfl rfl rfl rfl trivial ?_
  obtain ⟨n, h⟩ := h
  refine x_X0_sendTable_11 n a3 (0 : Int32) σ1 Q h
def w_X0_collect_6 : Nat → (a2 : Nat) → (v3 : Int32) → (v4 : Int32) → (v5 : Int32) → (σ : ds_S) → (Q : Option Value → ds_S → Prop) → Prop
  | 0, _, _, _, _, _, _ => False
  | f + 1, a2, v3, v4, v5, σ, Q => (((σ.1 1 0) ≤ v5 → (v4 = 0 ∨ v4 = 1) ∧ Q (some (.int v4)) σ) ∧ (¬ (σ.1 1 0) ≤ v5 → ds_k Yc a2 10 ∧ vp_in ((v5 * (6 : Int32)) + v3) (Yc.2.2.1 a2) ∧ vp_in v5 6 ∧ (((σ.1 a2 (((v5 * (6 : Int32)) + v3).toNatClampNeg)) ≤ 0 → w_X0_collect_6 f a2 v3 (v4 ||| (0 : Int32)) (v5 + (1 : Int32)) (ds_wl σ 9 v5.toNatClampNeg ((σ.1 a2 (((v5 * (6 : Int32)) + v3).toNatClampNeg)).toInt64 * (151200 : Int64))) Q) ∧ (¬ (σ.1 a2 (((v5 * (6 : Int32)) + v3).toNatClampNeg)) ≤ 0 → w_X0_collect_6 f a2 v3 (v4 ||| (1 : Int32)) (v5 + (1 : Int32)) (ds_wl σ 9 v5.toNatClampNeg ((σ.1 a2 (((v5 * (6 : Int32)) + v3).toNatClampNeg)).toInt64 * (151200 : Int64))) Q))))
theorem x_X0_collect_6 : ∀ (f : Nat) (a2 : Nat) (v3 : Int32) (v4 : Int32) (v5 : Int32) (g6 : Option Value) (σ : ds_S) (Q : Option Value → ds_S → Prop), w_X0_collect_6 f a2 v3 v4 v5 σ Q → ds_X mt_X0_collect Yc 6 [some (.ref 8), some (.ref 1), some (.ref a2), some (.int v3), some (.int v4), some (.int v5), g6] [] σ Q := by
  intro f
  induction f with
  | zero => intro a2 v3 v4 v5 g6 σ Q h; exact False.elim h
  | succ f ih =>
    intro a2 v3 v4 v5 g6 σ Q h
    rw [w_X0_collect_6] at h
    refine ds_blk (ls2 := [some (.ref 8), some (.ref 1), some (.ref a2), some (.int v3), some (.int v4), some (.int v5), g6]) (st2 := [.int (σ.1 1 0), .int v5]) (σ2 := σ) ok_X0_collect 4 3 6 12 [ds_k Yc 1 1] rfl rfl rfl rfl ⟨⟨by decide, rfl⟩, trivial⟩ ?_
    refine ds_ic_ge (show decode mt_X0_collect.2.1 12 = .ok (.if_icmp .ge 48, 3) from ds_dec (i := (12, .if_icmp .ge 48, 3, 0, 0, 0, .int 0)) ok_X0_collect 7 rfl) (t := 60) (by decide) (fun hc => ?_) (fun hc => ?_)
    · replace h := h.1 hc
      refine ds_blk (ls2 := [some (.ref 8), some (.ref 1), some (.ref a2), some (.int v3), some (.int v4), some (.int v5), g6]) (st2 := [.int v4]) (σ2 := σ) ok_X0_collect 32 1 60 62 [] rfl rfl rfl rfl trivial ?_
      obtain ⟨o1, h⟩ := h
      exact ds_zret (show decode mt_X0_collect.2.1 62 = .ok (.ireturn, 1) from ds_dec (i := (62, .ireturn, 1, 0, 0, 0, .int 0)) ok_X0_collect 33 rfl) rfl o1 h
    · replace h := h.2 hc
      refine ds_blk (ls2 := [some (.ref 8), some (.ref 1), some (.ref a2), some (.int v3), some (.int v4), some (.int v5), g6]) (st2 := [.int v3, .int v5, .ref a2]) (σ2 := σ) ok_X0_collect 8 3 15 19 [] rfl rfl rfl rfl trivial ?_
      refine ds_callN (z := mt_X8_pair) (as := [.int v5, .int v3]) (rest := [.ref a2]) (show decode mt_X0_collect.2.1 19 = .ok (.invokestatic 46, 3) from ds_dec (i := (19, .invokestatic 46, 3, 0, 0, 0, .int 0)) ok_X0_collect 11 rfl) (ds_E.mono (sp_X8_pair v5 v3 σ ) (fun r σ1 hr => ?_)) ⟨zw_X8_pair.1, zw_X8_pair.2.1, zw_X8_pair.2.2, by decide, by decide⟩ (by decide +kernel) zt_X8_pair (Nat.le_of_ble_eq_true rfl)
      obtain ⟨x9, rfl, e8, e9⟩ := hr
      rw [e8, e9]
      show ds_X mt_X0_collect Yc 22 [some (.ref 8), some (.ref 1), some (.ref a2), some (.int v3), some (.int v4), some (.int v5), g6] [.int ((v5 * (6 : Int32)) + v3), .ref a2] σ Q
      obtain ⟨o2, o3, o4, h⟩ := h
      refine ds_blk (ls2 := [some (.ref 8), some (.ref 1), some (.ref a2), some (.int v3), some (.int v4), some (.int v5), some (.int (σ.1 a2 (((v5 * (6 : Int32)) + v3).toNatClampNeg)))]) (st2 := [.int (σ.1 a2 (((v5 * (6 : Int32)) + v3).toNatClampNeg)), .int v4]) (σ2 := (ds_wl σ 9 v5.toNatClampNeg ((σ.1 a2 (((v5 * (6 : Int32)) + v3).toNatClampNeg)).toInt64 * (151200 : Int64)))) ok_X0_collect 12 12 22 43 [ds_k Yc a2 10, vp_in ((v5 * (6 : Int32)) + v3) (Yc.2.2.1 a2), ds_k Yc 8 0, ds_k Yc 9 11, vp_in v5 6] rfl rfl rfl rfl ⟨o2, o3, ⟨by decide, rfl⟩, ⟨by decide, rfl⟩, o4, trivial⟩ ?_
      refine ds_if_le (show decode mt_X0_collect.2.1 43 = .ok (.ifCond .le 7, 3) from ds_dec (i := (43, .ifCond .le 7, 3, 0, 0, 0, .int 0)) ok_X0_collect 24 rfl) (t := 50) (by decide) (fun hc => ?_) (fun hc => ?_)
      · replace h := h.1 hc
        refine ds_blk (ls2 := [some (.ref 8), some (.ref 1), some (.ref a2), some (.int v3), some (.int (v4 ||| (0 : Int32))), some (.int (v5 + (1 : Int32))), some (.int (σ.1 a2 (((v5 * (6 : Int32)) + v3).toNatClampNeg)))]) (st2 := []) (σ2 := (ds_wl σ 9 v5.toNatClampNeg ((σ.1 a2 (((v5 * (6 : Int32)) + v3).toNatClampNeg)).toInt64 * (151200 : Int64)))) ok_X0_collect 27 4 50 57 [] rfl rfl rfl rfl trivial ?_
        refine ds_goto (show decode mt_X0_collect.2.1 57 = .ok (.goto (-51), 3) from ds_dec (i := (57, .goto (-51), 3, 0, 0, 0, .int 0)) ok_X0_collect 31 rfl) (t := 6) (by decide) ?_
        exact ih a2 v3 (v4 ||| (0 : Int32)) (v5 + (1 : Int32)) _ (ds_wl σ 9 v5.toNatClampNeg ((σ.1 a2 (((v5 * (6 : Int32)) + v3).toNatClampNeg)).toInt64 * (151200 : Int64))) Q h
      · replace h := h.2 hc
        refine ds_blk (ls2 := [some (.ref 8), some (.ref 1), some (.ref a2), some (.int v3), some (.int v4), some (.int v5), some (.int (σ.1 a2 (((v5 * (6 : Int32)) + v3).toNatClampNeg)))]) (st2 := [.int (1 : Int32), .int v4]) (σ2 := (ds_wl σ 9 v5.toNatClampNeg ((σ.1 a2 (((v5 * (6 : Int32)) + v3).toNatClampNeg)).toInt64 * (151200 : Int64)))) ok_X0_collect 25 1 46 47 [] rfl rfl rfl rfl trivial ?_
        refine ds_goto (show decode mt_X0_collect.2.1 47 = .ok (.goto 4, 3) from ds_dec (i := (47, .goto 4, 3, 0, 0, 0, .int 0)) ok_X0_collect 26 rfl) (t := 51) (by decide) ?_
        refine ds_blk (ls2 := [some (.ref 8), some (.ref 1), some (.ref a2), some (.int v3), some (.int (v4 ||| (1 : Int32))), some (.int (v5 + (1 : Int32))), some (.int (σ.1 a2 (((v5 * (6 : Int32)) + v3).toNatClampNeg)))]) (st2 := []) (σ2 := (ds_wl σ 9 v5.toNatClampNeg ((σ.1 a2 (((v5 * (6 : Int32)) + v3).toNatClampNeg)).toInt64 * (151200 : Int64)))) ok_X0_collect 28 3 51 57 [] rfl rfl rfl rfl trivial ?_
        refine ds_goto (show decode mt_X0_collect.2.1 57 = .ok (.goto (-51), 3) from ds_dec (i := (57, .goto (-51), 3, 0, 0, 0, .int 0)) ok_X0_collect 31 rfl) (t := 6) (by decide) ?_
        exact ih a2 v3 (v4 ||| (1 : Int32)) (v5 + (1 : Int32)) _ (ds_wl σ 9 v5.toNatClampNeg ((σ.1 a2 (((v5 * (6 : Int32)) + v3).toNatClampNeg)).toInt64 * (151200 : Int64))) Q h
def w_X0_collect (a2 : Nat) (a3 : Int32) (σ : ds_S) (Q : Option Value → ds_S → Prop) : Prop := ∃ n, w_X0_collect_6 n a2 a3 (0 : Int32) (0 : Int32) σ Q
theorem e_X0_collect (a2 : Nat) (a3 : Int32) (σ : ds_S) (Q : Option Value → ds_S → Prop) (h : w_X0_collect a2 a3 σ Q) : ds_E mt_X0_collect Yc [.ref 8, .ref 1, .ref a2, .int a3] σ Q := by
  refine ds_enter (by decide) (Nat.le_of_ble_eq_true rfl) ?_
  show ds_X mt_X0_collect Yc 0 [some (.ref 8), some (.ref 1), some (.ref a2), some (.int a3), none, none, none] [] σ Q
  unfold w_X0_collect at h
  refine ds_blk (ls2 := [some (.ref 8), some (.ref 1), some (.ref a2), some (.int a3), some (.int (0 : Int32)), some (.int (0 : Int32)), none]) (st2 := []) (σ2 := σ) ok_X0_collect 0 4 0 6 [] rfl rfl rfl rfl trivial ?_
  obtain ⟨n, h⟩ := h
  refine x_X0_collect_6 n a2 a3 (0 : Int32) (0 : Int32) _ σ Q h
def w_X0_pass_7 : Nat → (a2 : Nat) → (v3 : Int32) → (σ : ds_S) → (Q : Option Value → ds_S → Prop) → Prop
  | 0, _, _, _, _ => False
  | f + 1, a2, v3, σ, Q => ((v3 ≤ 0 → Q none σ) ∧ (¬ v3 ≤ 0 → ds_k Yc a2 7 ∧ ds_k Yc (Yc.2.2.2 a2 1) 10 ∧ vp_in v3 (Yc.2.2.1 (Yc.2.2.2 a2 1)) ∧ vp_in (σ.1 (Yc.2.2.2 a2 1) v3.toNatClampNeg) 6 ∧ (((lg_cmp (σ.2 9 ((σ.1 (Yc.2.2.2 a2 1) v3.toNatClampNeg).toNatClampNeg)) (0 : Int64)) ≤ 0 → w_X0_pass_7 f a2 (v3 + (-1 : Int32)) σ Q) ∧ (¬ (lg_cmp (σ.2 9 ((σ.1 (Yc.2.2.2 a2 1) v3.toNatClampNeg).toNatClampNeg)) (0 : Int64)) ≤ 0 → ds_k Yc a2 7 ∧ ds_k Yc (Yc.2.2.2 a2 3) 10 ∧ vp_in (σ.1 (Yc.2.2.2 a2 1) v3.toNatClampNeg) (Yc.2.2.1 (Yc.2.2.2 a2 3)) ∧ (((σ.1 (Yc.2.2.2 a2 3) ((σ.1 (Yc.2.2.2 a2 1) v3.toNatClampNeg).toNatClampNeg)) ≤ 0 → w_X0_pass_7 f a2 (v3 + (-1 : Int32)) σ Q) ∧ (¬ (σ.1 (Yc.2.2.2 a2 3) ((σ.1 (Yc.2.2.2 a2 1) v3.toNatClampNeg).toNatClampNeg)) ≤ 0 → vp_in (σ.1 (Yc.2.2.2 a2 1) v3.toNatClampNeg) 6 ∧ ds_k Yc a2 7 ∧ ds_k Yc (Yc.2.2.2 a2 3) 10 ∧ vp_in (σ.1 (Yc.2.2.2 a2 1) v3.toNatClampNeg) (Yc.2.2.1 (Yc.2.2.2 a2 3)) ∧ ¬ (σ.1 (Yc.2.2.2 a2 3) ((σ.1 (Yc.2.2.2 a2 1) v3.toNatClampNeg).toNatClampNeg)).toInt64 = 0 ∧ ds_EV mt_X0_divide Yc [.ref 8, .ref 1, .ref a2, .int (σ.1 (Yc.2.2.2 a2 1) v3.toNatClampNeg), .long ((σ.2 9 ((σ.1 (Yc.2.2.2 a2 1) v3.toNatClampNeg).toNatClampNeg)) / (σ.1 (Yc.2.2.2 a2 3) ((σ.1 (Yc.2.2.2 a2 1) v3.toNatClampNeg).toNatClampNeg)).toInt64)] σ (fun σ1 => w_X0_pass_7 f a2 (v3 + (-1 : Int32)) σ1 Q)))))))
theorem x_X0_pass_7 : ∀ (f : Nat) (a2 : Nat) (v3 : Int32) (g4 : Option Value) (σ : ds_S) (Q : Option Value → ds_S → Prop), w_X0_pass_7 f a2 v3 σ Q → ds_X mt_X0_pass Yc 7 [some (.ref 8), some (.ref 1), some (.ref a2), some (.int v3), g4] [] σ Q := by
  intro f
  induction f with
  | zero => intro a2 v3 g4 σ Q h; exact False.elim h
  | succ f ih =>
    intro a2 v3 g4 σ Q h
    rw [w_X0_pass_7] at h
    refine ds_blk (ls2 := [some (.ref 8), some (.ref 1), some (.ref a2), some (.int v3), g4]) (st2 := [.int v3]) (σ2 := σ) ok_X0_pass 5 1 7 8 [] rfl rfl rfl rfl trivial ?_
    refine ds_if_le (show decode mt_X0_pass.2.1 8 = .ok (.ifCond .le 63, 3) from ds_dec (i := (8, .ifCond .le 63, 3, 0, 0, 0, .int 0)) ok_X0_pass 6 rfl) (t := 71) (by decide) (fun hc => ?_) (fun hc => ?_)
    · replace h := h.1 hc
      exact ds_vret (show decode mt_X0_pass.2.1 71 = .ok (.return_, 1) from ds_dec (i := (71, .return_, 1, 0, 0, 0, .int 0)) ok_X0_pass 41 rfl) rfl h
    · replace h := h.2 hc
      obtain ⟨o1, o2, o3, o4, h⟩ := h
      refine ds_blk (ls2 := [some (.ref 8), some (.ref 1), some (.ref a2), some (.int v3), some (.int (σ.1 (Yc.2.2.2 a2 1) v3.toNatClampNeg))]) (st2 := [.int (lg_cmp (σ.2 9 ((σ.1 (Yc.2.2.2 a2 1) v3.toNatClampNeg).toNatClampNeg)) (0 : Int64))]) (σ2 := σ) ok_X0_pass 7 11 11 28 [ds_k Yc a2 7, ds_k Yc (Yc.2.2.2 a2 1) 10, vp_in v3 (Yc.2.2.1 (Yc.2.2.2 a2 1)), ds_k Yc 8 0, ds_k Yc 9 11, vp_in (σ.1 (Yc.2.2.2 a2 1) v3.toNatClampNeg) 6] rfl rfl rfl rfl ⟨o1, o2, o3, ⟨by decide, rfl⟩, ⟨by decide, rfl⟩, o4, trivial⟩ ?_
      refine ds_if_le (show decode mt_X0_pass.2.1 28 = .ok (.ifCond .le 37, 3) from ds_dec (i := (28, .ifCond .le 37, 3, 0, 0, 0, .int 0)) ok_X0_pass 18 rfl) (t := 65) (by decide) (fun hc => ?_) (fun hc => ?_)
      · replace h := h.1 hc
        refine ds_blk (ls2 := [some (.ref 8), some (.ref 1), some (.ref a2), some (.int (v3 + (-1 : Int32))), some (.int (σ.1 (Yc.2.2.2 a2 1) v3.toNatClampNeg))]) (st2 := []) (σ2 := σ) ok_X0_pass 39 1 65 68 [] rfl rfl rfl rfl trivial ?_
        refine ds_goto (show decode mt_X0_pass.2.1 68 = .ok (.goto (-61), 3) from ds_dec (i := (68, .goto (-61), 3, 0, 0, 0, .int 0)) ok_X0_pass 40 rfl) (t := 7) (by decide) ?_
        exact ih a2 (v3 + (-1 : Int32)) _ σ Q h
      · replace h := h.2 hc
        obtain ⟨o5, o6, o7, h⟩ := h
        refine ds_blk (ls2 := [some (.ref 8), some (.ref 1), some (.ref a2), some (.int v3), some (.int (σ.1 (Yc.2.2.2 a2 1) v3.toNatClampNeg))]) (st2 := [.int (σ.1 (Yc.2.2.2 a2 3) ((σ.1 (Yc.2.2.2 a2 1) v3.toNatClampNeg).toNatClampNeg))]) (σ2 := σ) ok_X0_pass 19 4 31 38 [ds_k Yc a2 7, ds_k Yc (Yc.2.2.2 a2 3) 10, vp_in (σ.1 (Yc.2.2.2 a2 1) v3.toNatClampNeg) (Yc.2.2.1 (Yc.2.2.2 a2 3))] rfl rfl rfl rfl ⟨o5, o6, o7, trivial⟩ ?_
        refine ds_if_le (show decode mt_X0_pass.2.1 38 = .ok (.ifCond .le 27, 3) from ds_dec (i := (38, .ifCond .le 27, 3, 0, 0, 0, .int 0)) ok_X0_pass 23 rfl) (t := 65) (by decide) (fun hc => ?_) (fun hc => ?_)
        · replace h := h.1 hc
          refine ds_blk (ls2 := [some (.ref 8), some (.ref 1), some (.ref a2), some (.int (v3 + (-1 : Int32))), some (.int (σ.1 (Yc.2.2.2 a2 1) v3.toNatClampNeg))]) (st2 := []) (σ2 := σ) ok_X0_pass 39 1 65 68 [] rfl rfl rfl rfl trivial ?_
          refine ds_goto (show decode mt_X0_pass.2.1 68 = .ok (.goto (-61), 3) from ds_dec (i := (68, .goto (-61), 3, 0, 0, 0, .int 0)) ok_X0_pass 40 rfl) (t := 7) (by decide) ?_
          exact ih a2 (v3 + (-1 : Int32)) _ σ Q h
        · replace h := h.2 hc
          obtain ⟨o8, o9, o10, o11, o12, h⟩ := h
          refine ds_blk (ls2 := [some (.ref 8), some (.ref 1), some (.ref a2), some (.int v3), some (.int (σ.1 (Yc.2.2.2 a2 1) v3.toNatClampNeg))]) (st2 := [.long ((σ.2 9 ((σ.1 (Yc.2.2.2 a2 1) v3.toNatClampNeg).toNatClampNeg)) / (σ.1 (Yc.2.2.2 a2 3) ((σ.1 (Yc.2.2.2 a2 1) v3.toNatClampNeg).toNatClampNeg)).toInt64), .int (σ.1 (Yc.2.2.2 a2 1) v3.toNatClampNeg), .ref a2, .ref 1, .ref 8]) (σ2 := σ) ok_X0_pass 24 14 41 62 [ds_k Yc 8 0, ds_k Yc 9 11, vp_in (σ.1 (Yc.2.2.2 a2 1) v3.toNatClampNeg) 6, ds_k Yc a2 7, ds_k Yc (Yc.2.2.2 a2 3) 10, vp_in (σ.1 (Yc.2.2.2 a2 1) v3.toNatClampNeg) (Yc.2.2.1 (Yc.2.2.2 a2 3)), ¬ (σ.1 (Yc.2.2.2 a2 3) ((σ.1 (Yc.2.2.2 a2 1) v3.toNatClampNeg).toNatClampNeg)).toInt64 = 0] rfl rfl rfl rfl ⟨⟨by decide, rfl⟩, ⟨by decide, rfl⟩, o8, o9, o10, o11, o12, trivial⟩ ?_
          refine ds_callV (z := mt_X0_divide) (b := 8) (as := [.ref 1, .ref a2, .int (σ.1 (Yc.2.2.2 a2 1) v3.toNatClampNeg), .long ((σ.2 9 ((σ.1 (Yc.2.2.2 a2 1) v3.toNatClampNeg).toNatClampNeg)) / (σ.1 (Yc.2.2.2 a2 3) ((σ.1 (Yc.2.2.2 a2 1) v3.toNatClampNeg).toNatClampNeg)).toInt64)]) (rest := []) (show decode mt_X0_pass.2.1 62 = .ok (.invokevirtual 62, 3) from ds_dec (i := (62, .invokevirtual 62, 3, 0, 0, 474, .int 0)) ok_X0_pass 38 rfl) (ds_E.mono h (fun r σ1 hr => ?_)) ⟨zw_X0_divide.1, zw_X0_divide.2.1, zw_X0_divide.2.2, by decide, by decide⟩ (ds_wb_T (p := 474) (by decide +kernel)) zi_X0_divide zs_X0_divide (by decide) rfl ⟨_, rfl, rfl⟩ (Nat.le_of_ble_eq_true rfl)
          obtain ⟨rfl, h⟩ := hr
          show ds_X mt_X0_pass Yc 65 [some (.ref 8), some (.ref 1), some (.ref a2), some (.int v3), some (.int (σ.1 (Yc.2.2.2 a2 1) v3.toNatClampNeg))] [] σ1 Q
          refine ds_blk (ls2 := [some (.ref 8), some (.ref 1), some (.ref a2), some (.int (v3 + (-1 : Int32))), some (.int (σ.1 (Yc.2.2.2 a2 1) v3.toNatClampNeg))]) (st2 := []) (σ2 := σ1) ok_X0_pass 39 1 65 68 [] rfl rfl rfl rfl trivial ?_
          refine ds_goto (show decode mt_X0_pass.2.1 68 = .ok (.goto (-61), 3) from ds_dec (i := (68, .goto (-61), 3, 0, 0, 0, .int 0)) ok_X0_pass 40 rfl) (t := 7) (by decide) ?_
          exact ih a2 (v3 + (-1 : Int32)) _ σ1 Q h
def w_X0_pass (a2 : Nat) (σ : ds_S) (Q : Option Value → ds_S → Prop) : Prop := ds_k Yc a2 7 ∧ (∃ n, w_X0_pass_7 n a2 ((σ.1 a2 2) - (1 : Int32)) σ Q)
theorem e_X0_pass (a2 : Nat) (σ : ds_S) (Q : Option Value → ds_S → Prop) (h : w_X0_pass a2 σ Q) : ds_E mt_X0_pass Yc [.ref 8, .ref 1, .ref a2] σ Q := by
  refine ds_enter (by decide) (Nat.le_of_ble_eq_true rfl) ?_
  show ds_X mt_X0_pass Yc 0 [some (.ref 8), some (.ref 1), some (.ref a2), none, none] [] σ Q
  unfold w_X0_pass at h
  obtain ⟨o1, h⟩ := h
  refine ds_blk (ls2 := [some (.ref 8), some (.ref 1), some (.ref a2), some (.int ((σ.1 a2 2) - (1 : Int32))), none]) (st2 := []) (σ2 := σ) ok_X0_pass 0 5 0 7 [ds_k Yc a2 7] rfl rfl rfl rfl ⟨o1, trivial⟩ ?_
  obtain ⟨n, h⟩ := h
  refine x_X0_pass_7 n a2 ((σ.1 a2 2) - (1 : Int32)) _ σ Q h
def w_X0_divide_47 (a2 : Nat) (v3 : Int32) (v4 : Int64) (v6 : Int32) (t0 : Int32) (t1 : Int32) (σ : ds_S) (Q : Option Value → ds_S → Prop) (K3 : Int32 → Int64 → Int32 → ds_S → Prop) : Prop := vp_in (t1 + t0) 20 ∧ vp_in (t1 + t0) 20 ∧ ds_k Yc a2 7 ∧ ds_k Yc (Yc.2.2.2 a2 5) 10 ∧ vp_in v6 (Yc.2.2.1 (Yc.2.2.2 a2 5)) ∧ vp_in (σ.1 (Yc.2.2.2 a2 5) v6.toNatClampNeg) 6 ∧ vp_in (σ.1 (Yc.2.2.2 a2 5) v6.toNatClampNeg) 6 ∧ K3 v3 v4 (v6 + (1 : Int32)) (ds_wl (ds_wl σ 10 ((t1 + t0).toNatClampNeg) ((σ.2 10 ((t1 + t0).toNatClampNeg)) + v4)) 9 ((σ.1 (Yc.2.2.2 a2 5) v6.toNatClampNeg).toNatClampNeg) ((σ.2 9 ((σ.1 (Yc.2.2.2 a2 5) v6.toNatClampNeg).toNatClampNeg)) + v4))
theorem x_X0_divide_47 (a2 : Nat) (v3 : Int32) (v4 : Int64) (v6 : Int32) (t0 : Int32) (t1 : Int32) (g5 : Option Value) (σ : ds_S) (Q : Option Value → ds_S → Prop) (K3 : Int32 → Int64 → Int32 → ds_S → Prop) (hK3 : ∀ (v3 : Int32) (v4 : Int64) (v6 : Int32) (g5 : Option Value) (σ2 : ds_S), K3 v3 v4 v6 σ2 → ds_X mt_X0_divide Yc 3 [some (.ref 8), some (.ref 1), some (.ref a2), some (.int v3), some (.long v4), g5, some (.int v6)] [] σ2 Q) (h : w_X0_divide_47 a2 v3 v4 v6 t0 t1 σ Q K3) : ds_X mt_X0_divide Yc 47 [some (.ref 8), some (.ref 1), some (.ref a2), some (.int v3), some (.long v4), g5, some (.int v6)] [.int t0, .int t1, .ref 10] σ Q := by
  unfold w_X0_divide_47 at h
  obtain ⟨o1, o2, o3, o4, o5, o6, o7, h⟩ := h
  refine ds_blk (ls2 := [some (.ref 8), some (.ref 1), some (.ref a2), some (.int v3), some (.long v4), (ds_nl g5), some (.int (v6 + (1 : Int32)))]) (st2 := []) (σ2 := (ds_wl (ds_wl σ 10 ((t1 + t0).toNatClampNeg) ((σ.2 10 ((t1 + t0).toNatClampNeg)) + v4)) 9 ((σ.1 (Yc.2.2.2 a2 5) v6.toNatClampNeg).toNatClampNeg) ((σ.2 9 ((σ.1 (Yc.2.2.2 a2 5) v6.toNatClampNeg).toNatClampNeg)) + v4))) ok_X0_divide 26 18 47 74 [ds_k Yc 10 11, vp_in (t1 + t0) 20, ds_k Yc 10 11, vp_in (t1 + t0) 20, ds_k Yc 8 0, ds_k Yc a2 7, ds_k Yc (Yc.2.2.2 a2 5) 10, vp_in v6 (Yc.2.2.1 (Yc.2.2.2 a2 5)), ds_k Yc 9 11, vp_in (σ.1 (Yc.2.2.2 a2 5) v6.toNatClampNeg) 6, ds_k Yc 9 11, vp_in (σ.1 (Yc.2.2.2 a2 5) v6.toNatClampNeg) 6] rfl rfl rfl rfl ⟨⟨by decide, rfl⟩, o1, ⟨by decide, rfl⟩, o2, ⟨by decide, rfl⟩, o3, o4, o5, ⟨by decide, rfl⟩, o6, ⟨by decide, rfl⟩, o7, trivial⟩ ?_
  refine ds_goto (show decode mt_X0_divide.2.1 74 = .ok (.goto (-71), 3) from ds_dec (i := (74, .goto (-71), 3, 0, 0, 0, .int 0)) ok_X0_divide 44 rfl) (t := 3) (by decide) ?_
  exact hK3 v3 v4 (v6 + (1 : Int32)) _ (ds_wl (ds_wl σ 10 ((t1 + t0).toNatClampNeg) ((σ.2 10 ((t1 + t0).toNatClampNeg)) + v4)) 9 ((σ.1 (Yc.2.2.2 a2 5) v6.toNatClampNeg).toNatClampNeg) ((σ.2 9 ((σ.1 (Yc.2.2.2 a2 5) v6.toNatClampNeg).toNatClampNeg)) + v4)) h
def w_X0_divide_3 : Nat → (a2 : Nat) → (v3 : Int32) → (v4 : Int64) → (v6 : Int32) → (σ : ds_S) → (Q : Option Value → ds_S → Prop) → Prop
  | 0, _, _, _, _, _, _ => False
  | f + 1, a2, v3, v4, v6, σ, Q => (((σ.1 1 1) ≤ v6 → Q none σ) ∧ (¬ (σ.1 1 1) ≤ v6 → ds_k Yc a2 7 ∧ ds_k Yc (Yc.2.2.2 a2 4) 10 ∧ vp_in v6 (Yc.2.2.1 (Yc.2.2.2 a2 4)) ∧ ((¬ (σ.1 (Yc.2.2.2 a2 4) v6.toNatClampNeg) = v3 → w_X0_divide_3 f a2 v3 v4 (v6 + (1 : Int32)) σ Q) ∧ ((σ.1 (Yc.2.2.2 a2 4) v6.toNatClampNeg) = v3 → vp_in v6 10 ∧ ((¬ (σ.1 61 v6.toNatClampNeg) = v3 → w_X0_divide_47 a2 v3 v4 v6 (1 : Int32) ((2 : Int32) * v6) σ Q (fun v3_1 v4_1 v6_1 σ1 => w_X0_divide_3 f a2 v3_1 v4_1 v6_1 σ1 Q)) ∧ ((σ.1 61 v6.toNatClampNeg) = v3 → w_X0_divide_47 a2 v3 v4 v6 (0 : Int32) ((2 : Int32) * v6) σ Q (fun v3_2 v4_2 v6_2 σ2 => w_X0_divide_3 f a2 v3_2 v4_2 v6_2 σ2 Q)))))))
theorem x_X0_divide_3 : ∀ (f : Nat) (a2 : Nat) (v3 : Int32) (v4 : Int64) (v6 : Int32) (g5 : Option Value) (σ : ds_S) (Q : Option Value → ds_S → Prop), w_X0_divide_3 f a2 v3 v4 v6 σ Q → ds_X mt_X0_divide Yc 3 [some (.ref 8), some (.ref 1), some (.ref a2), some (.int v3), some (.long v4), g5, some (.int v6)] [] σ Q := by
  intro f
  induction f with
  | zero => intro a2 v3 v4 v6 g5 σ Q h; exact False.elim h
  | succ f ih =>
    intro a2 v3 v4 v6 g5 σ Q h
    rw [w_X0_divide_3] at h
    refine ds_blk (ls2 := [some (.ref 8), some (.ref 1), some (.ref a2), some (.int v3), some (.long v4), g5, some (.int v6)]) (st2 := [.int (σ.1 1 1), .int v6]) (σ2 := σ) ok_X0_divide 2 3 3 9 [ds_k Yc 1 1] rfl rfl rfl rfl ⟨⟨by decide, rfl⟩, trivial⟩ ?_
    refine ds_ic_ge (show decode mt_X0_divide.2.1 9 = .ok (.if_icmp .ge 68, 3) from ds_dec (i := (9, .if_icmp .ge 68, 3, 0, 0, 0, .int 0)) ok_X0_divide 5 rfl) (t := 77) (by decide) (fun hc => ?_) (fun hc => ?_)
    · replace h := h.1 hc
      exact ds_vret (show decode mt_X0_divide.2.1 77 = .ok (.return_, 1) from ds_dec (i := (77, .return_, 1, 0, 0, 0, .int 0)) ok_X0_divide 45 rfl) rfl h
    · replace h := h.2 hc
      obtain ⟨o1, o2, o3, h⟩ := h
      refine ds_blk (ls2 := [some (.ref 8), some (.ref 1), some (.ref a2), some (.int v3), some (.long v4), g5, some (.int v6)]) (st2 := [.int v3, .int (σ.1 (Yc.2.2.2 a2 4) v6.toNatClampNeg)]) (σ2 := σ) ok_X0_divide 6 5 12 20 [ds_k Yc a2 7, ds_k Yc (Yc.2.2.2 a2 4) 10, vp_in v6 (Yc.2.2.1 (Yc.2.2.2 a2 4))] rfl rfl rfl rfl ⟨o1, o2, o3, trivial⟩ ?_
      refine ds_ic_ne (show decode mt_X0_divide.2.1 20 = .ok (.if_icmp .ne 51, 3) from ds_dec (i := (20, .if_icmp .ne 51, 3, 0, 0, 0, .int 0)) ok_X0_divide 11 rfl) (t := 71) (by decide) (fun hc => ?_) (fun hc => ?_)
      · replace h := h.1 hc
        refine ds_blk (ls2 := [some (.ref 8), some (.ref 1), some (.ref a2), some (.int v3), some (.long v4), (ds_nl g5), some (.int (v6 + (1 : Int32)))]) (st2 := []) (σ2 := σ) ok_X0_divide 43 1 71 74 [] rfl rfl rfl rfl trivial ?_
        refine ds_goto (show decode mt_X0_divide.2.1 74 = .ok (.goto (-71), 3) from ds_dec (i := (74, .goto (-71), 3, 0, 0, 0, .int 0)) ok_X0_divide 44 rfl) (t := 3) (by decide) ?_
        exact ih a2 v3 v4 (v6 + (1 : Int32)) _ σ Q h
      · replace h := h.2 hc
        obtain ⟨o4, h⟩ := h
        refine ds_blk (ls2 := [some (.ref 8), some (.ref 1), some (.ref a2), some (.int v3), some (.long v4), g5, some (.int v6)]) (st2 := [.int v3, .int (σ.1 61 v6.toNatClampNeg), .int ((2 : Int32) * v6), .ref 10]) (σ2 := σ) ok_X0_divide 12 10 23 39 [ds_k Yc 8 0, ds_k Yc 1 1, ds_k Yc 61 10, vp_in v6 10] rfl rfl rfl rfl ⟨⟨by decide, rfl⟩, ⟨by decide, rfl⟩, ⟨by decide, rfl⟩, o4, trivial⟩ ?_
        refine ds_ic_ne (show decode mt_X0_divide.2.1 39 = .ok (.if_icmp .ne 7, 3) from ds_dec (i := (39, .if_icmp .ne 7, 3, 0, 0, 0, .int 0)) ok_X0_divide 22 rfl) (t := 46) (by decide) (fun hc => ?_) (fun hc => ?_)
        · replace h := h.1 hc
          refine ds_blk (ls2 := [some (.ref 8), some (.ref 1), some (.ref a2), some (.int v3), some (.long v4), g5, some (.int v6)]) (st2 := [.int (1 : Int32), .int ((2 : Int32) * v6), .ref 10]) (σ2 := σ) ok_X0_divide 25 1 46 47 [] rfl rfl rfl rfl trivial ?_
          refine x_X0_divide_47 a2 v3 v4 v6 (1 : Int32) ((2 : Int32) * v6) _ σ Q _ ?_ h
          · intro v3_1 v4_1 v6_1 g5_1 σ1 h
            exact ih a2 v3_1 v4_1 v6_1 _ σ1 Q h
        · replace h := h.2 hc
          refine ds_blk (ls2 := [some (.ref 8), some (.ref 1), some (.ref a2), some (.int v3), some (.long v4), g5, some (.int v6)]) (st2 := [.int (0 : Int32), .int ((2 : Int32) * v6), .ref 10]) (σ2 := σ) ok_X0_divide 23 1 42 43 [] rfl rfl rfl rfl trivial ?_
          refine ds_goto (show decode mt_X0_divide.2.1 43 = .ok (.goto 4, 3) from ds_dec (i := (43, .goto 4, 3, 0, 0, 0, .int 0)) ok_X0_divide 24 rfl) (t := 47) (by decide) ?_
          refine x_X0_divide_47 a2 v3 v4 v6 (0 : Int32) ((2 : Int32) * v6) _ σ Q _ ?_ h
          · intro v3_2 v4_2 v6_2 g5_2 σ2 h
            exact ih a2 v3_2 v4_2 v6_2 _ σ2 Q h
def w_X0_divide (a2 : Nat) (a3 : Int32) (a4 : Int64) (σ : ds_S) (Q : Option Value → ds_S → Prop) : Prop := ∃ n, w_X0_divide_3 n a2 a3 a4 (0 : Int32) σ Q
theorem e_X0_divide (a2 : Nat) (a3 : Int32) (a4 : Int64) (σ : ds_S) (Q : Option Value → ds_S → Prop) (h : w_X0_divide a2 a3 a4 σ Q) : ds_E mt_X0_divide Yc [.ref 8, .ref 1, .ref a2, .int a3, .long a4] σ Q := by
  refine ds_enter (by decide) (Nat.le_of_ble_eq_true rfl) ?_
  show ds_X mt_X0_divide Yc 0 [some (.ref 8), some (.ref 1), some (.ref a2), some (.int a3), some (.long a4), none, none] [] σ Q
  unfold w_X0_divide at h
  refine ds_blk (ls2 := [some (.ref 8), some (.ref 1), some (.ref a2), some (.int a3), some (.long a4), none, some (.int (0 : Int32))]) (st2 := []) (σ2 := σ) ok_X0_divide 0 2 0 3 [] rfl rfl rfl rfl trivial ?_
  obtain ⟨n, h⟩ := h
  refine x_X0_divide_3 n a2 a3 a4 (0 : Int32) _ σ Q h
def w_X1_renew (a1 : Int32) (σ : ds_S) (Q : Option Value → ds_S → Prop) : Prop := Q none (ds_wi (ds_wi (ds_wi (ds_wi σ 1 0 a1) 1 1 (0 : Int32)) 1 6 (0 : Int32)) 1 7 (0 : Int32))
theorem e_X1_renew (a1 : Int32) (σ : ds_S) (Q : Option Value → ds_S → Prop) (h : w_X1_renew a1 σ Q) : ds_E mt_X1_renew Yc [.ref 1, .int a1] σ Q := by
  refine ds_enter (by decide) (Nat.le_of_ble_eq_true rfl) ?_
  show ds_X mt_X1_renew Yc 0 [some (.ref 1), some (.int a1)] [] σ Q
  unfold w_X1_renew at h
  refine ds_blk (ls2 := [some (.ref 1), some (.int a1)]) (st2 := []) (σ2 := (ds_wi (ds_wi (ds_wi (ds_wi σ 1 0 a1) 1 1 (0 : Int32)) 1 6 (0 : Int32)) 1 7 (0 : Int32))) ok_X1_renew 0 12 0 20 [ds_k Yc 1 1, ds_k Yc 1 1, ds_k Yc 1 1, ds_k Yc 1 1] rfl rfl rfl rfl ⟨⟨by decide, rfl⟩, ⟨by decide, rfl⟩, ⟨by decide, rfl⟩, ⟨by decide, rfl⟩, trivial⟩ ?_
  exact ds_vret (show decode mt_X1_renew.2.1 20 = .ok (.return_, 1) from ds_dec (i := (20, .return_, 1, 0, 0, 0, .int 0)) ok_X1_renew 12 rfl) rfl h
def w_X1_join (a1 : Int32) (a2 : Int32) (a3 : Int32) (a4 : Int32) (σ : ds_S) (Q : Option Value → ds_S → Prop) : Prop := vp_in (σ.1 1 1) 10 ∧ vp_in (σ.1 1 1) 10 ∧ vp_in (σ.1 1 1) 10 ∧ vp_in (σ.1 1 1) 10 ∧ Q (some (.int (((σ.1 1 1) + (1 : Int32)) - (1 : Int32)))) (ds_wi (ds_wi (ds_wi (ds_wi (ds_wi σ 61 ((σ.1 1 1).toNatClampNeg) a1) 62 ((σ.1 1 1).toNatClampNeg) a2) 63 ((σ.1 1 1).toNatClampNeg) a3) 64 ((σ.1 1 1).toNatClampNeg) a4) 1 1 ((σ.1 1 1) + (1 : Int32)))
theorem e_X1_join (a1 : Int32) (a2 : Int32) (a3 : Int32) (a4 : Int32) (σ : ds_S) (Q : Option Value → ds_S → Prop) (h : w_X1_join a1 a2 a3 a4 σ Q) : ds_E mt_X1_join Yc [.ref 1, .int a1, .int a2, .int a3, .int a4] σ Q := by
  refine ds_enter (by decide) (Nat.le_of_ble_eq_true rfl) ?_
  show ds_X mt_X1_join Yc 0 [some (.ref 1), some (.int a1), some (.int a2), some (.int a3), some (.int a4)] [] σ Q
  unfold w_X1_join at h
  obtain ⟨o1, o2, o3, o4, h⟩ := h
  refine ds_blk (ls2 := [some (.ref 1), some (.int a1), some (.int a2), some (.int a3), some (.int a4)]) (st2 := [.int (((σ.1 1 1) + (1 : Int32)) - (1 : Int32))]) (σ2 := (ds_wi (ds_wi (ds_wi (ds_wi (ds_wi σ 61 ((σ.1 1 1).toNatClampNeg) a1) 62 ((σ.1 1 1).toNatClampNeg) a2) 63 ((σ.1 1 1).toNatClampNeg) a3) 64 ((σ.1 1 1).toNatClampNeg) a4) 1 1 ((σ.1 1 1) + (1 : Int32)))) ok_X1_join 0 34 0 57 [ds_k Yc 1 1, ds_k Yc 1 1, ds_k Yc 61 10, vp_in (σ.1 1 1) 10, ds_k Yc 1 1, ds_k Yc 1 1, ds_k Yc 62 10, vp_in (σ.1 1 1) 10, ds_k Yc 1 1, ds_k Yc 1 1, ds_k Yc 63 10, vp_in (σ.1 1 1) 10, ds_k Yc 1 1, ds_k Yc 1 1, ds_k Yc 64 10, vp_in (σ.1 1 1) 10, ds_k Yc 1 1, ds_k Yc 1 1, ds_k Yc 1 1] rfl rfl rfl rfl ⟨⟨by decide, rfl⟩, ⟨by decide, rfl⟩, ⟨by decide, rfl⟩, o1, ⟨by decide, rfl⟩, ⟨by decide, rfl⟩, ⟨by decide, rfl⟩, o2, ⟨by decide, rfl⟩, ⟨by decide, rfl⟩, ⟨by decide, rfl⟩, o3, ⟨by decide, rfl⟩, ⟨by decide, rfl⟩, ⟨by decide, rfl⟩, o4, ⟨by decide, rfl⟩, ⟨by decide, rfl⟩, ⟨by decide, rfl⟩, trivial⟩ ?_
  exact ds_iret (show decode mt_X1_join.2.1 57 = .ok (.ireturn, 1) from ds_dec (i := (57, .ireturn, 1, 0, 0, 0, .int 0)) ok_X1_join 34 rfl) rfl h
def w_X3_clear (a0 : Nat) (σ : ds_S) (Q : Option Value → ds_S → Prop) : Prop := ds_k Yc a0 3 ∧ ds_k Yc a0 3 ∧ ds_k Yc a0 3 ∧ ds_k Yc a0 3 ∧ ds_k Yc a0 3 ∧ ds_k Yc a0 3 ∧ Q none (ds_wi (ds_wi (ds_wi (ds_wi (ds_wi (ds_wl σ a0 0 (0 : Int64)) a0 1 (1 : Int32)) a0 2 (-6 : Int32)) a0 3 (-6 : Int32)) a0 4 (0 : Int32)) a0 5 (-1 : Int32))
theorem e_X3_clear (a0 : Nat) (σ : ds_S) (Q : Option Value → ds_S → Prop) (h : w_X3_clear a0 σ Q) : ds_E mt_X3_clear Yc [.ref a0] σ Q := by
  refine ds_enter (by decide) (Nat.le_of_ble_eq_true rfl) ?_
  show ds_X mt_X3_clear Yc 0 [some (.ref a0)] [] σ Q
  unfold w_X3_clear at h
  obtain ⟨o1, o2, o3, o4, o5, o6, h⟩ := h
  refine ds_blk (ls2 := [some (.ref a0)]) (st2 := []) (σ2 := (ds_wi (ds_wi (ds_wi (ds_wi (ds_wi (ds_wl σ a0 0 (0 : Int64)) a0 1 (1 : Int32)) a0 2 (-6 : Int32)) a0 3 (-6 : Int32)) a0 4 (0 : Int32)) a0 5 (-1 : Int32))) ok_X3_clear 0 18 0 32 [ds_k Yc a0 3, ds_k Yc a0 3, ds_k Yc a0 3, ds_k Yc a0 3, ds_k Yc a0 3, ds_k Yc a0 3] rfl rfl rfl rfl ⟨o1, o2, o3, o4, o5, o6, trivial⟩ ?_
  exact ds_vret (show decode mt_X3_clear.2.1 32 = .ok (.return_, 1) from ds_dec (i := (32, .return_, 1, 0, 0, 0, .int 0)) ok_X3_clear 18 rfl) rfl h
def w_X3_climb_13 : Nat → (a0 : Nat) → (v3 : Int32) → (v4 : Int32) → (σ : ds_S) → (Q : Option Value → ds_S → Prop) → (K89 : Int32 → ds_S → Prop) → Prop
  | 0, _, _, _, _, _, _ => False
  | f + 1, a0, v3, v4, σ, Q, K89 => (((2 : Int32) ≤ v4 → K89 v3 σ) ∧ (¬ (2 : Int32) ≤ v4 → vp_in (((2 : Int32) * v3) + v4) 20 ∧ ds_k Yc a0 3 ∧ ds_k Yc a0 3 ∧ vp_in v3 10 ∧ (((lg_cmp ((σ.2 10 ((((2 : Int32) * v3) + v4).toNatClampNeg)) * (σ.1 a0 1).toInt64) ((σ.2 a0 0) * (σ.1 63 v3.toNatClampNeg).toInt64)) ≤ 0 → w_X3_climb_13 f a0 v3 (v4 + (1 : Int32)) σ Q K89) ∧ (¬ (lg_cmp ((σ.2 10 ((((2 : Int32) * v3) + v4).toNatClampNeg)) * (σ.1 a0 1).toInt64) ((σ.2 a0 0) * (σ.1 63 v3.toNatClampNeg).toInt64)) ≤ 0 → ds_k Yc a0 3 ∧ vp_in v3 10 ∧ ds_k Yc a0 3 ∧ ds_k Yc a0 3 ∧ ds_k Yc a0 3 ∧ w_X3_climb_13 f a0 v3 (v4 + (1 : Int32)) (ds_wi (ds_wi (ds_wi (ds_wl σ a0 0 (σ.2 10 ((((2 : Int32) * v3) + v4).toNatClampNeg))) a0 1 (σ.1 63 v3.toNatClampNeg)) a0 2 v3) a0 3 v4) Q K89))))
theorem x_X3_climb_13 : ∀ (f : Nat) (a0 : Nat) (v3 : Int32) (v4 : Int32) (g5 : Option Value) (g6 : Option Value) (σ : ds_S) (Q : Option Value → ds_S → Prop) (K89 : Int32 → ds_S → Prop) (hK89 : ∀ (v3 : Int32) (g4 : Option Value) (g5 : Option Value) (g6 : Option Value) (σ2 : ds_S), K89 v3 σ2 → ds_X mt_X3_climb Yc 89 [some (.ref a0), some (.ref 1), some (.ref 8), some (.int v3), g4, g5, g6] [] σ2 Q), w_X3_climb_13 f a0 v3 v4 σ Q K89 → ds_X mt_X3_climb Yc 13 [some (.ref a0), some (.ref 1), some (.ref 8), some (.int v3), some (.int v4), g5, g6] [] σ Q := by
  intro f
  induction f with
  | zero => intro a0 v3 v4 g5 g6 σ Q K89 hK89 h; exact False.elim h
  | succ f ih =>
    intro a0 v3 v4 g5 g6 σ Q K89 hK89 h
    rw [w_X3_climb_13] at h
    refine ds_blk (ls2 := [some (.ref a0), some (.ref 1), some (.ref 8), some (.int v3), some (.int v4), g5, g6]) (st2 := [.int (2 : Int32), .int v4]) (σ2 := σ) ok_X3_climb 8 2 13 16 [] rfl rfl rfl rfl trivial ?_
    refine ds_ic_ge (show decode mt_X3_climb.2.1 16 = .ok (.if_icmp .ge 73, 3) from ds_dec (i := (16, .if_icmp .ge 73, 3, 0, 0, 0, .int 0)) ok_X3_climb 10 rfl) (t := 89) (by decide) (fun hc => ?_) (fun hc => ?_)
    · replace h := h.1 hc
      exact hK89 v3 _ _ _ σ h
    · replace h := h.2 hc
      refine ds_blk (ls2 := [some (.ref a0), some (.ref 1), some (.ref 8), some (.int v3), some (.int v4), g5, g6]) (st2 := [.int v4, .int v3, .ref 10]) (σ2 := σ) ok_X3_climb 11 4 19 26 [ds_k Yc 8 0] rfl rfl rfl rfl ⟨⟨by decide, rfl⟩, trivial⟩ ?_
      refine ds_callN (z := mt_X8_slot) (as := [.int v3, .int v4]) (rest := [.ref 10]) (show decode mt_X3_climb.2.1 26 = .ok (.invokestatic 41, 3) from ds_dec (i := (26, .invokestatic 41, 3, 0, 0, 0, .int 0)) ok_X3_climb 15 rfl) (ds_E.mono (sp_X8_slot v3 v4 σ ) (fun r σ1 hr => ?_)) ⟨zw_X8_slot.1, zw_X8_slot.2.1, zw_X8_slot.2.2, by decide, by decide⟩ (by decide +kernel) zt_X8_slot (Nat.le_of_ble_eq_true rfl)
      obtain ⟨x9, rfl, e8, e9⟩ := hr
      rw [e8, e9]
      show ds_X mt_X3_climb Yc 29 [some (.ref a0), some (.ref 1), some (.ref 8), some (.int v3), some (.int v4), g5, g6] [.int (((2 : Int32) * v3) + v4), .ref 10] σ Q
      obtain ⟨o1, o2, o3, o4, h⟩ := h
      refine ds_blk (ls2 := [some (.ref a0), some (.ref 1), some (.ref 8), some (.int v3), some (.int v4), some (.long (σ.2 10 ((((2 : Int32) * v3) + v4).toNatClampNeg))), none]) (st2 := [.int (lg_cmp ((σ.2 10 ((((2 : Int32) * v3) + v4).toNatClampNeg)) * (σ.1 a0 1).toInt64) ((σ.2 a0 0) * (σ.1 63 v3.toNatClampNeg).toInt64))]) (σ2 := σ) ok_X3_climb 16 16 29 53 [ds_k Yc 10 11, vp_in (((2 : Int32) * v3) + v4) 20, ds_k Yc a0 3, ds_k Yc a0 3, ds_k Yc 1 1, ds_k Yc 63 10, vp_in v3 10] rfl rfl rfl rfl ⟨⟨by decide, rfl⟩, o1, o2, o3, ⟨by decide, rfl⟩, ⟨by decide, rfl⟩, o4, trivial⟩ ?_
      refine ds_if_le (show decode mt_X3_climb.2.1 53 = .ok (.ifCond .le 30, 3) from ds_dec (i := (53, .ifCond .le 30, 3, 0, 0, 0, .int 0)) ok_X3_climb 32 rfl) (t := 83) (by decide) (fun hc => ?_) (fun hc => ?_)
      · replace h := h.1 hc
        refine ds_blk (ls2 := [some (.ref a0), some (.ref 1), some (.ref 8), some (.int v3), some (.int (v4 + (1 : Int32))), some (.long (σ.2 10 ((((2 : Int32) * v3) + v4).toNatClampNeg))), none]) (st2 := []) (σ2 := σ) ok_X3_climb 48 1 83 86 [] rfl rfl rfl rfl trivial ?_
        refine ds_goto (show decode mt_X3_climb.2.1 86 = .ok (.goto (-73), 3) from ds_dec (i := (86, .goto (-73), 3, 0, 0, 0, .int 0)) ok_X3_climb 49 rfl) (t := 13) (by decide) ?_
        exact ih a0 v3 (v4 + (1 : Int32)) _ _ σ Q K89 hK89 h
      · replace h := h.2 hc
        obtain ⟨o5, o6, o7, o8, o9, h⟩ := h
        refine ds_blk (ls2 := [some (.ref a0), some (.ref 1), some (.ref 8), some (.int v3), some (.int (v4 + (1 : Int32))), some (.long (σ.2 10 ((((2 : Int32) * v3) + v4).toNatClampNeg))), none]) (st2 := []) (σ2 := (ds_wi (ds_wi (ds_wi (ds_wl σ a0 0 (σ.2 10 ((((2 : Int32) * v3) + v4).toNatClampNeg))) a0 1 (σ.1 63 v3.toNatClampNeg)) a0 2 v3) a0 3 v4)) ok_X3_climb 33 16 56 86 [ds_k Yc a0 3, ds_k Yc 1 1, ds_k Yc 63 10, vp_in v3 10, ds_k Yc a0 3, ds_k Yc a0 3, ds_k Yc a0 3] rfl rfl rfl rfl ⟨o5, ⟨by decide, rfl⟩, ⟨by decide, rfl⟩, o6, o7, o8, o9, trivial⟩ ?_
        refine ds_goto (show decode mt_X3_climb.2.1 86 = .ok (.goto (-73), 3) from ds_dec (i := (86, .goto (-73), 3, 0, 0, 0, .int 0)) ok_X3_climb 49 rfl) (t := 13) (by decide) ?_
        exact ih a0 v3 (v4 + (1 : Int32)) _ _ (ds_wi (ds_wi (ds_wi (ds_wl σ a0 0 (σ.2 10 ((((2 : Int32) * v3) + v4).toNatClampNeg))) a0 1 (σ.1 63 v3.toNatClampNeg)) a0 2 v3) a0 3 v4) Q K89 hK89 h
def w_X3_climb_2 : Nat → (a0 : Nat) → (v3 : Int32) → (σ : ds_S) → (Q : Option Value → ds_S → Prop) → Prop
  | 0, _, _, _, _ => False
  | f + 1, a0, v3, σ, Q => (((σ.1 1 1) ≤ v3 → Q none σ) ∧ (¬ (σ.1 1 1) ≤ v3 → ∃ n, w_X3_climb_13 n a0 v3 (0 : Int32) σ Q (fun v3_1 σ1 => w_X3_climb_2 f a0 (v3_1 + (1 : Int32)) σ1 Q)))
theorem x_X3_climb_2 : ∀ (f : Nat) (a0 : Nat) (v3 : Int32) (g4 : Option Value) (g5 : Option Value) (g6 : Option Value) (σ : ds_S) (Q : Option Value → ds_S → Prop), w_X3_climb_2 f a0 v3 σ Q → ds_X mt_X3_climb Yc 2 [some (.ref a0), some (.ref 1), some (.ref 8), some (.int v3), g4, g5, g6] [] σ Q := by
  intro f
  induction f with
  | zero => intro a0 v3 g4 g5 g6 σ Q h; exact False.elim h
  | succ f ih =>
    intro a0 v3 g4 g5 g6 σ Q h
    rw [w_X3_climb_2] at h
    refine ds_blk (ls2 := [some (.ref a0), some (.ref 1), some (.ref 8), some (.int v3), g4, g5, g6]) (st2 := [.int (σ.1 1 1), .int v3]) (σ2 := σ) ok_X3_climb 2 3 2 7 [ds_k Yc 1 1] rfl rfl rfl rfl ⟨⟨by decide, rfl⟩, trivial⟩ ?_
    refine ds_ic_ge (show decode mt_X3_climb.2.1 7 = .ok (.if_icmp .ge 88, 3) from ds_dec (i := (7, .if_icmp .ge 88, 3, 0, 0, 0, .int 0)) ok_X3_climb 5 rfl) (t := 95) (by decide) (fun hc => ?_) (fun hc => ?_)
    · replace h := h.1 hc
      exact ds_vret (show decode mt_X3_climb.2.1 95 = .ok (.return_, 1) from ds_dec (i := (95, .return_, 1, 0, 0, 0, .int 0)) ok_X3_climb 52 rfl) rfl h
    · replace h := h.2 hc
      refine ds_blk (ls2 := [some (.ref a0), some (.ref 1), some (.ref 8), some (.int v3), some (.int (0 : Int32)), g5, g6]) (st2 := []) (σ2 := σ) ok_X3_climb 6 2 10 13 [] rfl rfl rfl rfl trivial ?_
      obtain ⟨n, h⟩ := h
      refine x_X3_climb_13 n a0 v3 (0 : Int32) _ _ σ Q _ ?_ h
      · intro v3_1 g4_1 g5_1 g6_1 σ1 h
        refine ds_blk (ls2 := [some (.ref a0), some (.ref 1), some (.ref 8), some (.int (v3_1 + (1 : Int32))), g4_1, g5_1, g6_1]) (st2 := []) (σ2 := σ1) ok_X3_climb 50 1 89 92 [] rfl rfl rfl rfl trivial ?_
        refine ds_goto (show decode mt_X3_climb.2.1 92 = .ok (.goto (-90), 3) from ds_dec (i := (92, .goto (-90), 3, 0, 0, 0, .int 0)) ok_X3_climb 51 rfl) (t := 2) (by decide) ?_
        exact ih a0 (v3_1 + (1 : Int32)) _ _ _ σ1 Q h
def w_X3_climb (a0 : Nat) (σ : ds_S) (Q : Option Value → ds_S → Prop) : Prop := ∃ n, w_X3_climb_2 n a0 (0 : Int32) σ Q
theorem e_X3_climb (a0 : Nat) (σ : ds_S) (Q : Option Value → ds_S → Prop) (h : w_X3_climb a0 σ Q) : ds_E mt_X3_climb Yc [.ref a0, .ref 1, .ref 8] σ Q := by
  refine ds_enter (by decide) (Nat.le_of_ble_eq_true rfl) ?_
  show ds_X mt_X3_climb Yc 0 [some (.ref a0), some (.ref 1), some (.ref 8), none, none, none, none] [] σ Q
  unfold w_X3_climb at h
  refine ds_blk (ls2 := [some (.ref a0), some (.ref 1), some (.ref 8), some (.int (0 : Int32)), none, none, none]) (st2 := []) (σ2 := σ) ok_X3_climb 0 2 0 2 [] rfl rfl rfl rfl trivial ?_
  obtain ⟨n, h⟩ := h
  refine x_X3_climb_2 n a0 (0 : Int32) _ _ _ σ Q h
def w_X3_copy (a0 : Nat) (a1 : Nat) (σ : ds_S) (Q : Option Value → ds_S → Prop) : Prop := ds_k Yc a1 3 ∧ ds_k Yc a0 3 ∧ ds_k Yc a1 3 ∧ ds_k Yc a0 3 ∧ ds_k Yc a1 3 ∧ ds_k Yc a0 3 ∧ ds_k Yc a1 3 ∧ ds_k Yc a0 3 ∧ ds_k Yc a1 3 ∧ ds_k Yc a0 3 ∧ ds_k Yc a1 3 ∧ ds_k Yc a0 3 ∧ Q none (ds_wi (ds_wi (ds_wi (ds_wi (ds_wi (ds_wl σ a0 0 (σ.2 a1 0)) a0 1 (σ.1 a1 1)) a0 2 ((ds_wi (ds_wl σ a0 0 (σ.2 a1 0)) a0 1 (σ.1 a1 1)).1 a1 2)) a0 3 ((ds_wi (ds_wi (ds_wl σ a0 0 (σ.2 a1 0)) a0 1 (σ.1 a1 1)) a0 2 ((ds_wi (ds_wl σ a0 0 (σ.2 a1 0)) a0 1 (σ.1 a1 1)).1 a1 2)).1 a1 3)) a0 4 ((ds_wi (ds_wi (ds_wi (ds_wl σ a0 0 (σ.2 a1 0)) a0 1 (σ.1 a1 1)) a0 2 ((ds_wi (ds_wl σ a0 0 (σ.2 a1 0)) a0 1 (σ.1 a1 1)).1 a1 2)) a0 3 ((ds_wi (ds_wi (ds_wl σ a0 0 (σ.2 a1 0)) a0 1 (σ.1 a1 1)) a0 2 ((ds_wi (ds_wl σ a0 0 (σ.2 a1 0)) a0 1 (σ.1 a1 1)).1 a1 2)).1 a1 3)).1 a1 4)) a0 5 ((ds_wi (ds_wi (ds_wi (ds_wi (ds_wl σ a0 0 (σ.2 a1 0)) a0 1 (σ.1 a1 1)) a0 2 ((ds_wi (ds_wl σ a0 0 (σ.2 a1 0)) a0 1 (σ.1 a1 1)).1 a1 2)) a0 3 ((ds_wi (ds_wi (ds_wl σ a0 0 (σ.2 a1 0)) a0 1 (σ.1 a1 1)) a0 2 ((ds_wi (ds_wl σ a0 0 (σ.2 a1 0)) a0 1 (σ.1 a1 1)).1 a1 2)).1 a1 3)) a0 4 ((ds_wi (ds_wi (ds_wi (ds_wl σ a0 0 (σ.2 a1 0)) a0 1 (σ.1 a1 1)) a0 2 ((ds_wi (ds_wl σ a0 0 (σ.2 a1 0)) a0 1 (σ.1 a1 1)).1 a1 2)) a0 3 ((ds_wi (ds_wi (ds_wl σ a0 0 (σ.2 a1 0)) a0 1 (σ.1 a1 1)) a0 2 ((ds_wi (ds_wl σ a0 0 (σ.2 a1 0)) a0 1 (σ.1 a1 1)).1 a1 2)).1 a1 3)).1 a1 4)).1 a1 5))
theorem e_X3_copy (a0 : Nat) (a1 : Nat) (σ : ds_S) (Q : Option Value → ds_S → Prop) (h : w_X3_copy a0 a1 σ Q) : ds_E mt_X3_copy Yc [.ref a0, .ref a1] σ Q := by
  refine ds_enter (by decide) (Nat.le_of_ble_eq_true rfl) ?_
  show ds_X mt_X3_copy Yc 0 [some (.ref a0), some (.ref a1)] [] σ Q
  unfold w_X3_copy at h
  obtain ⟨o1, o2, o3, o4, o5, o6, o7, o8, o9, o10, o11, o12, h⟩ := h
  refine ds_blk (ls2 := [some (.ref a0), some (.ref a1)]) (st2 := []) (σ2 := (ds_wi (ds_wi (ds_wi (ds_wi (ds_wi (ds_wl σ a0 0 (σ.2 a1 0)) a0 1 (σ.1 a1 1)) a0 2 ((ds_wi (ds_wl σ a0 0 (σ.2 a1 0)) a0 1 (σ.1 a1 1)).1 a1 2)) a0 3 ((ds_wi (ds_wi (ds_wl σ a0 0 (σ.2 a1 0)) a0 1 (σ.1 a1 1)) a0 2 ((ds_wi (ds_wl σ a0 0 (σ.2 a1 0)) a0 1 (σ.1 a1 1)).1 a1 2)).1 a1 3)) a0 4 ((ds_wi (ds_wi (ds_wi (ds_wl σ a0 0 (σ.2 a1 0)) a0 1 (σ.1 a1 1)) a0 2 ((ds_wi (ds_wl σ a0 0 (σ.2 a1 0)) a0 1 (σ.1 a1 1)).1 a1 2)) a0 3 ((ds_wi (ds_wi (ds_wl σ a0 0 (σ.2 a1 0)) a0 1 (σ.1 a1 1)) a0 2 ((ds_wi (ds_wl σ a0 0 (σ.2 a1 0)) a0 1 (σ.1 a1 1)).1 a1 2)).1 a1 3)).1 a1 4)) a0 5 ((ds_wi (ds_wi (ds_wi (ds_wi (ds_wl σ a0 0 (σ.2 a1 0)) a0 1 (σ.1 a1 1)) a0 2 ((ds_wi (ds_wl σ a0 0 (σ.2 a1 0)) a0 1 (σ.1 a1 1)).1 a1 2)) a0 3 ((ds_wi (ds_wi (ds_wl σ a0 0 (σ.2 a1 0)) a0 1 (σ.1 a1 1)) a0 2 ((ds_wi (ds_wl σ a0 0 (σ.2 a1 0)) a0 1 (σ.1 a1 1)).1 a1 2)).1 a1 3)) a0 4 ((ds_wi (ds_wi (ds_wi (ds_wl σ a0 0 (σ.2 a1 0)) a0 1 (σ.1 a1 1)) a0 2 ((ds_wi (ds_wl σ a0 0 (σ.2 a1 0)) a0 1 (σ.1 a1 1)).1 a1 2)) a0 3 ((ds_wi (ds_wi (ds_wl σ a0 0 (σ.2 a1 0)) a0 1 (σ.1 a1 1)) a0 2 ((ds_wi (ds_wl σ a0 0 (σ.2 a1 0)) a0 1 (σ.1 a1 1)).1 a1 2)).1 a1 3)).1 a1 4)).1 a1 5))) ok_X3_copy 0 24 0 48 [ds_k Yc a1 3, ds_k Yc a0 3, ds_k Yc a1 3, ds_k Yc a0 3, ds_k Yc a1 3, ds_k Yc a0 3, ds_k Yc a1 3, ds_k Yc a0 3, ds_k Yc a1 3, ds_k Yc a0 3, ds_k Yc a1 3, ds_k Yc a0 3] rfl rfl rfl rfl ⟨o1, o2, o3, o4, o5, o6, o7, o8, o9, o10, o11, o12, trivial⟩ ?_
  exact ds_vret (show decode mt_X3_copy.2.1 48 = .ok (.return_, 1) from ds_dec (i := (48, .return_, 1, 0, 0, 0, .int 0)) ok_X3_copy 24 rfl) rfl h
def w_X4_findOne (a2 : Int32) (σ : ds_S) (Q : Option Value → ds_S → Prop) : Prop := vp_in a2 6 ∧ ds_k Yc (Yc.2.2.2 7 a2.toNatClampNeg) 7 ∧ ds_EV mt_X7_find Yc [.ref (Yc.2.2.2 7 a2.toNatClampNeg), .ref 1, .ref 64, .int (q_lt (-1 : Int32) (σ.1 1 1) (σ.1 1 7)), .int a2] σ (fun σ2 => vp_in a2 6 ∧ Q (some (.ref (Yc.2.2.2 7 a2.toNatClampNeg))) σ2)
theorem e_X4_findOne (a2 : Int32) (σ : ds_S) (Q : Option Value → ds_S → Prop) (h : w_X4_findOne a2 σ Q) : ds_E mt_X4_findOne Yc [.ref 6, .ref 1, .int a2] σ Q := by
  refine ds_enter (by decide) (Nat.le_of_ble_eq_true rfl) ?_
  show ds_X mt_X4_findOne Yc 0 [some (.ref 6), some (.ref 1), some (.int a2)] [] σ Q
  unfold w_X4_findOne at h
  obtain ⟨o1, h⟩ := h
  refine ds_blk (ls2 := [some (.ref 6), some (.ref 1), some (.int a2)]) (st2 := [.int (-1 : Int32), .ref 1, .ref 64, .ref 1, .ref (Yc.2.2.2 7 a2.toNatClampNeg)]) (σ2 := σ) ok_X4_findOne 0 9 0 13 [ds_k Yc 6 4, ds_k Yc 7 13, vp_in a2 6, ds_k Yc 1 1] rfl rfl rfl rfl ⟨⟨by decide, rfl⟩, ⟨by decide, rfl⟩, o1, ⟨by decide, rfl⟩, trivial⟩ ?_
  refine ds_callV (z := mt_X1_linesThere) (b := 1) (as := [.int (-1 : Int32)]) (rest := [.ref 64, .ref 1, .ref (Yc.2.2.2 7 a2.toNatClampNeg)]) (show decode mt_X4_findOne.2.1 13 = .ok (.invokevirtual 24, 3) from ds_dec (i := (13, .invokevirtual 24, 3, 0, 0, 431, .int 0)) ok_X4_findOne 9 rfl) (ds_E.mono (sp_X1_linesThere (-1 : Int32) σ ) (fun r σ1 hr => ?_)) ⟨zw_X1_linesThere.1, zw_X1_linesThere.2.1, zw_X1_linesThere.2.2, by decide, by decide⟩ (ds_wb_T (p := 431) (by decide +kernel)) zi_X1_linesThere zs_X1_linesThere (by decide) rfl ⟨_, rfl, rfl⟩ (Nat.le_of_ble_eq_true rfl)
  obtain ⟨x9, rfl, e8, e9⟩ := hr
  rw [e8, e9]
  show ds_X mt_X4_findOne Yc 16 [some (.ref 6), some (.ref 1), some (.int a2)] [.int (q_lt (-1 : Int32) (σ.1 1 1) (σ.1 1 7)), .ref 64, .ref 1, .ref (Yc.2.2.2 7 a2.toNatClampNeg)] σ Q
  refine ds_blk (ls2 := [some (.ref 6), some (.ref 1), some (.int a2)]) (st2 := [.int a2, .int (q_lt (-1 : Int32) (σ.1 1 1) (σ.1 1 7)), .ref 64, .ref 1, .ref (Yc.2.2.2 7 a2.toNatClampNeg)]) (σ2 := σ) ok_X4_findOne 10 1 16 17 [] rfl rfl rfl rfl trivial ?_
  obtain ⟨o2, h⟩ := h
  refine ds_callV (z := mt_X7_find) (b := (Yc.2.2.2 7 a2.toNatClampNeg)) (as := [.ref 1, .ref 64, .int (q_lt (-1 : Int32) (σ.1 1 1) (σ.1 1 7)), .int a2]) (rest := []) (show decode mt_X4_findOne.2.1 17 = .ok (.invokevirtual 28, 3) from ds_dec (i := (17, .invokevirtual 28, 3, 0, 0, 435, .int 0)) ok_X4_findOne 11 rfl) (ds_E.mono h (fun r σ2 hr => ?_)) ⟨zw_X7_find.1, zw_X7_find.2.1, zw_X7_find.2.2, by decide, by decide⟩ (ds_wb_T (p := 435) (by decide +kernel)) zi_X7_find zs_X7_find o2.1 o2.2 ⟨_, rfl, rfl⟩ (Nat.le_of_ble_eq_true rfl)
  obtain ⟨rfl, h⟩ := hr
  show ds_X mt_X4_findOne Yc 20 [some (.ref 6), some (.ref 1), some (.int a2)] [] σ2 Q
  obtain ⟨o3, h⟩ := h
  refine ds_blk (ls2 := [some (.ref 6), some (.ref 1), some (.int a2)]) (st2 := [.ref (Yc.2.2.2 7 a2.toNatClampNeg)]) (σ2 := σ2) ok_X4_findOne 12 4 20 26 [ds_k Yc 6 4, ds_k Yc 7 13, vp_in a2 6] rfl rfl rfl rfl ⟨⟨by decide, rfl⟩, ⟨by decide, rfl⟩, o3, trivial⟩ ?_
  exact ds_aret (show decode mt_X4_findOne.2.1 26 = .ok (.areturn, 1) from ds_dec (i := (26, .areturn, 1, 0, 0, 0, .int 0)) ok_X4_findOne 16 rfl) rfl h
def w_X4_findAll (a2 : Int32) (σ : ds_S) (Q : Option Value → ds_S → Prop) : Prop := ds_EV mt_X4_findSome Yc [.ref 6, .ref 1, .ref 64, .int a2, .int (((1 : Int32) <<< ((σ.1 1 0) &&& 31)) - (1 : Int32))] σ (fun σ1 => Q none σ1)
theorem e_X4_findAll (a2 : Int32) (σ : ds_S) (Q : Option Value → ds_S → Prop) (h : w_X4_findAll a2 σ Q) : ds_E mt_X4_findAll Yc [.ref 6, .ref 1, .int a2] σ Q := by
  refine ds_enter (by decide) (Nat.le_of_ble_eq_true rfl) ?_
  show ds_X mt_X4_findAll Yc 0 [some (.ref 6), some (.ref 1), some (.int a2)] [] σ Q
  unfold w_X4_findAll at h
  refine ds_blk (ls2 := [some (.ref 6), some (.ref 1), some (.int a2)]) (st2 := [.int (((1 : Int32) <<< ((σ.1 1 0) &&& 31)) - (1 : Int32)), .int a2, .ref 64, .ref 1, .ref 6]) (σ2 := σ) ok_X4_findAll 0 11 0 15 [ds_k Yc 1 1, ds_k Yc 1 1] rfl rfl rfl rfl ⟨⟨by decide, rfl⟩, ⟨by decide, rfl⟩, trivial⟩ ?_
  refine ds_callV (z := mt_X4_findSome) (b := 6) (as := [.ref 1, .ref 64, .int a2, .int (((1 : Int32) <<< ((σ.1 1 0) &&& 31)) - (1 : Int32))]) (rest := []) (show decode mt_X4_findAll.2.1 15 = .ok (.invokevirtual 36, 3) from ds_dec (i := (15, .invokevirtual 36, 3, 0, 0, 496, .int 0)) ok_X4_findAll 11 rfl) (ds_E.mono h (fun r σ1 hr => ?_)) ⟨zw_X4_findSome.1, zw_X4_findSome.2.1, zw_X4_findSome.2.2, by decide, by decide⟩ (ds_wb_T (p := 496) (by decide +kernel)) zi_X4_findSome zs_X4_findSome (by decide) rfl ⟨_, rfl, rfl⟩ (Nat.le_of_ble_eq_true rfl)
  obtain ⟨rfl, h⟩ := hr
  show ds_X mt_X4_findAll Yc 18 [some (.ref 6), some (.ref 1), some (.int a2)] [] σ1 Q
  exact ds_vret (show decode mt_X4_findAll.2.1 18 = .ok (.return_, 1) from ds_dec (i := (18, .return_, 1, 0, 0, 0, .int 0)) ok_X4_findAll 12 rfl) rfl h
def w_X4_findSome_10 : Nat → (a2 : Nat) → (v4 : Int32) → (v5 : Int32) → (v6 : Int32) → (σ : ds_S) → (Q : Option Value → ds_S → Prop) → Prop
  | 0, _, _, _, _, _, _ => False
  | f + 1, a2, v4, v5, v6, σ, Q => (((σ.1 1 0) ≤ v6 → Q none σ) ∧ (¬ (σ.1 1 0) ≤ v6 → ((¬ (q_bit v4 v6) = (1 : Int32) → w_X4_findSome_10 f a2 v4 v5 (v6 + (1 : Int32)) σ Q) ∧ ((q_bit v4 v6) = (1 : Int32) → vp_in v6 6 ∧ ds_k Yc (Yc.2.2.2 7 v6.toNatClampNeg) 7 ∧ ds_EV mt_X7_find Yc [.ref (Yc.2.2.2 7 v6.toNatClampNeg), .ref 1, .ref a2, .int v5, .int v6] σ (fun σ2 => w_X4_findSome_10 f a2 v4 v5 (v6 + (1 : Int32)) σ2 Q)))))
theorem x_X4_findSome_10 : ∀ (f : Nat) (a2 : Nat) (v4 : Int32) (v5 : Int32) (v6 : Int32) (g3 : Option Value) (σ : ds_S) (Q : Option Value → ds_S → Prop), w_X4_findSome_10 f a2 v4 v5 v6 σ Q → ds_X mt_X4_findSome Yc 10 [some (.ref 6), some (.ref 1), some (.ref a2), g3, some (.int v4), some (.int v5), some (.int v6)] [] σ Q := by
  intro f
  induction f with
  | zero => intro a2 v4 v5 v6 g3 σ Q h; exact False.elim h
  | succ f ih =>
    intro a2 v4 v5 v6 g3 σ Q h
    rw [w_X4_findSome_10] at h
    refine ds_blk (ls2 := [some (.ref 6), some (.ref 1), some (.ref a2), g3, some (.int v4), some (.int v5), some (.int v6)]) (st2 := [.int (σ.1 1 0), .int v6]) (σ2 := σ) ok_X4_findSome 6 3 10 16 [ds_k Yc 1 1] rfl rfl rfl rfl ⟨⟨by decide, rfl⟩, trivial⟩ ?_
    refine ds_ic_ge (show decode mt_X4_findSome.2.1 16 = .ok (.if_icmp .ge 36, 3) from ds_dec (i := (16, .if_icmp .ge 36, 3, 0, 0, 0, .int 0)) ok_X4_findSome 9 rfl) (t := 52) (by decide) (fun hc => ?_) (fun hc => ?_)
    · replace h := h.1 hc
      exact ds_vret (show decode mt_X4_findSome.2.1 52 = .ok (.return_, 1) from ds_dec (i := (52, .return_, 1, 0, 0, 0, .int 0)) ok_X4_findSome 26 rfl) rfl h
    · replace h := h.2 hc
      refine ds_blk (ls2 := [some (.ref 6), some (.ref 1), some (.ref a2), g3, some (.int v4), some (.int v5), some (.int v6)]) (st2 := [.int v6, .int v4]) (σ2 := σ) ok_X4_findSome 10 2 19 23 [] rfl rfl rfl rfl trivial ?_
      refine ds_callN (z := mt_X8_bit) (as := [.int v4, .int v6]) (rest := []) (show decode mt_X4_findSome.2.1 23 = .ok (.invokestatic 39, 3) from ds_dec (i := (23, .invokestatic 39, 3, 0, 0, 0, .int 0)) ok_X4_findSome 12 rfl) (ds_E.mono (sp_X8_bit v4 v6 σ ) (fun r σ1 hr => ?_)) ⟨zw_X8_bit.1, zw_X8_bit.2.1, zw_X8_bit.2.2, by decide, by decide⟩ (by decide +kernel) zt_X8_bit (Nat.le_of_ble_eq_true rfl)
      obtain ⟨x9, rfl, e8, e9⟩ := hr
      rw [e8, e9]
      show ds_X mt_X4_findSome Yc 26 [some (.ref 6), some (.ref 1), some (.ref a2), g3, some (.int v4), some (.int v5), some (.int v6)] [.int (q_bit v4 v6)] σ Q
      refine ds_blk (ls2 := [some (.ref 6), some (.ref 1), some (.ref a2), g3, some (.int v4), some (.int v5), some (.int v6)]) (st2 := [.int (1 : Int32), .int (q_bit v4 v6)]) (σ2 := σ) ok_X4_findSome 13 1 26 27 [] rfl rfl rfl rfl trivial ?_
      refine ds_ic_ne (show decode mt_X4_findSome.2.1 27 = .ok (.if_icmp .ne 19, 3) from ds_dec (i := (27, .if_icmp .ne 19, 3, 0, 0, 0, .int 0)) ok_X4_findSome 14 rfl) (t := 46) (by decide) (fun hc => ?_) (fun hc => ?_)
      · replace h := h.1 hc
        refine ds_blk (ls2 := [some (.ref 6), some (.ref 1), some (.ref a2), g3, some (.int v4), some (.int v5), some (.int (v6 + (1 : Int32)))]) (st2 := []) (σ2 := σ) ok_X4_findSome 24 1 46 49 [] rfl rfl rfl rfl trivial ?_
        refine ds_goto (show decode mt_X4_findSome.2.1 49 = .ok (.goto (-39), 3) from ds_dec (i := (49, .goto (-39), 3, 0, 0, 0, .int 0)) ok_X4_findSome 25 rfl) (t := 10) (by decide) ?_
        exact ih a2 v4 v5 (v6 + (1 : Int32)) _ σ Q h
      · replace h := h.2 hc
        obtain ⟨o1, h⟩ := h
        refine ds_blk (ls2 := [some (.ref 6), some (.ref 1), some (.ref a2), g3, some (.int v4), some (.int v5), some (.int v6)]) (st2 := [.int v6, .int v5, .ref a2, .ref 1, .ref (Yc.2.2.2 7 v6.toNatClampNeg)]) (σ2 := σ) ok_X4_findSome 15 8 30 43 [ds_k Yc 6 4, ds_k Yc 7 13, vp_in v6 6] rfl rfl rfl rfl ⟨⟨by decide, rfl⟩, ⟨by decide, rfl⟩, o1, trivial⟩ ?_
        obtain ⟨o2, h⟩ := h
        refine ds_callV (z := mt_X7_find) (b := (Yc.2.2.2 7 v6.toNatClampNeg)) (as := [.ref 1, .ref a2, .int v5, .int v6]) (rest := []) (show decode mt_X4_findSome.2.1 43 = .ok (.invokevirtual 28, 3) from ds_dec (i := (43, .invokevirtual 28, 3, 0, 0, 435, .int 0)) ok_X4_findSome 23 rfl) (ds_E.mono h (fun r σ2 hr => ?_)) ⟨zw_X7_find.1, zw_X7_find.2.1, zw_X7_find.2.2, by decide, by decide⟩ (ds_wb_T (p := 435) (by decide +kernel)) zi_X7_find zs_X7_find o2.1 o2.2 ⟨_, rfl, rfl⟩ (Nat.le_of_ble_eq_true rfl)
        obtain ⟨rfl, h⟩ := hr
        show ds_X mt_X4_findSome Yc 46 [some (.ref 6), some (.ref 1), some (.ref a2), g3, some (.int v4), some (.int v5), some (.int v6)] [] σ2 Q
        refine ds_blk (ls2 := [some (.ref 6), some (.ref 1), some (.ref a2), g3, some (.int v4), some (.int v5), some (.int (v6 + (1 : Int32)))]) (st2 := []) (σ2 := σ2) ok_X4_findSome 24 1 46 49 [] rfl rfl rfl rfl trivial ?_
        refine ds_goto (show decode mt_X4_findSome.2.1 49 = .ok (.goto (-39), 3) from ds_dec (i := (49, .goto (-39), 3, 0, 0, 0, .int 0)) ok_X4_findSome 25 rfl) (t := 10) (by decide) ?_
        exact ih a2 v4 v5 (v6 + (1 : Int32)) _ σ2 Q h
def w_X4_findSome (a2 : Nat) (a3 : Int32) (a4 : Int32) (σ : ds_S) (Q : Option Value → ds_S → Prop) : Prop := ∃ n, w_X4_findSome_10 n a2 a4 (q_lt a3 (σ.1 1 1) (σ.1 1 7)) (0 : Int32) σ Q
theorem e_X4_findSome (a2 : Nat) (a3 : Int32) (a4 : Int32) (σ : ds_S) (Q : Option Value → ds_S → Prop) (h : w_X4_findSome a2 a3 a4 σ Q) : ds_E mt_X4_findSome Yc [.ref 6, .ref 1, .ref a2, .int a3, .int a4] σ Q := by
  refine ds_enter (by decide) (Nat.le_of_ble_eq_true rfl) ?_
  show ds_X mt_X4_findSome Yc 0 [some (.ref 6), some (.ref 1), some (.ref a2), some (.int a3), some (.int a4), none, none] [] σ Q
  unfold w_X4_findSome at h
  refine ds_blk (ls2 := [some (.ref 6), some (.ref 1), some (.ref a2), some (.int a3), some (.int a4), none, none]) (st2 := [.int a3, .ref 1]) (σ2 := σ) ok_X4_findSome 0 2 0 2 [] rfl rfl rfl rfl trivial ?_
  refine ds_callV (z := mt_X1_linesThere) (b := 1) (as := [.int a3]) (rest := []) (show decode mt_X4_findSome.2.1 2 = .ok (.invokevirtual 24, 3) from ds_dec (i := (2, .invokevirtual 24, 3, 0, 0, 431, .int 0)) ok_X4_findSome 2 rfl) (ds_E.mono (sp_X1_linesThere a3 σ ) (fun r σ1 hr => ?_)) ⟨zw_X1_linesThere.1, zw_X1_linesThere.2.1, zw_X1_linesThere.2.2, by decide, by decide⟩ (ds_wb_T (p := 431) (by decide +kernel)) zi_X1_linesThere zs_X1_linesThere (by decide) rfl ⟨_, rfl, rfl⟩ (Nat.le_of_ble_eq_true rfl)
  obtain ⟨x9, rfl, e8, e9⟩ := hr
  rw [e8, e9]
  show ds_X mt_X4_findSome Yc 5 [some (.ref 6), some (.ref 1), some (.ref a2), some (.int a3), some (.int a4), none, none] [.int (q_lt a3 (σ.1 1 1) (σ.1 1 7))] σ Q
  refine ds_blk (ls2 := [some (.ref 6), some (.ref 1), some (.ref a2), some (.int a3), some (.int a4), some (.int (q_lt a3 (σ.1 1 1) (σ.1 1 7))), some (.int (0 : Int32))]) (st2 := []) (σ2 := σ) ok_X4_findSome 3 3 5 10 [] rfl rfl rfl rfl trivial ?_
  obtain ⟨n, h⟩ := h
  refine x_X4_findSome_10 n a2 a4 (q_lt a3 (σ.1 1 1) (σ.1 1 7)) (0 : Int32) _ σ Q h
def w_X6_findWorst_18 : Nat → (a1 : Nat) → (a2 : Nat) → (v3 : Int32) → (v4 : Int32) → (v5 : Int32) → (σ : ds_S) → (Q : Option Value → ds_S → Prop) → Prop
  | 0, _, _, _, _, _, _, _ => False
  | f + 1, a1, a2, v3, v4, v5, σ, Q => ((v4 ≤ v5 → Q none σ) ∧ (¬ v4 ≤ v5 → ds_EV mt_X6_addNet Yc [.ref 12, .ref a1, .int v5, .int v3, .ref a2] σ (fun σ1 => w_X6_findWorst_18 f a1 a2 v3 v4 (v5 + (1 : Int32)) σ1 Q)))
theorem x_X6_findWorst_18 : ∀ (f : Nat) (a1 : Nat) (a2 : Nat) (v3 : Int32) (v4 : Int32) (v5 : Int32) (σ : ds_S) (Q : Option Value → ds_S → Prop), w_X6_findWorst_18 f a1 a2 v3 v4 v5 σ Q → ds_X mt_X6_findWorst Yc 18 [some (.ref 12), some (.ref a1), some (.ref a2), some (.int v3), some (.int v4), some (.int v5)] [] σ Q := by
  intro f
  induction f with
  | zero => intro a1 a2 v3 v4 v5 σ Q h; exact False.elim h
  | succ f ih =>
    intro a1 a2 v3 v4 v5 σ Q h
    rw [w_X6_findWorst_18] at h
    refine ds_blk (ls2 := [some (.ref 12), some (.ref a1), some (.ref a2), some (.int v3), some (.int v4), some (.int v5)]) (st2 := [.int v4, .int v5]) (σ2 := σ) ok_X6_findWorst 10 2 18 22 [] rfl rfl rfl rfl trivial ?_
    refine ds_ic_ge (show decode mt_X6_findWorst.2.1 22 = .ok (.if_icmp .ge 18, 3) from ds_dec (i := (22, .if_icmp .ge 18, 3, 0, 0, 0, .int 0)) ok_X6_findWorst 12 rfl) (t := 40) (by decide) (fun hc => ?_) (fun hc => ?_)
    · replace h := h.1 hc
      exact ds_vret (show decode mt_X6_findWorst.2.1 40 = .ok (.return_, 1) from ds_dec (i := (40, .return_, 1, 0, 0, 0, .int 0)) ok_X6_findWorst 21 rfl) rfl h
    · replace h := h.2 hc
      refine ds_blk (ls2 := [some (.ref 12), some (.ref a1), some (.ref a2), some (.int v3), some (.int v4), some (.int v5)]) (st2 := [.ref a2, .int v3, .int v5, .ref a1, .ref 12]) (σ2 := σ) ok_X6_findWorst 13 5 25 31 [] rfl rfl rfl rfl trivial ?_
      refine ds_callV (z := mt_X6_addNet) (b := 12) (as := [.ref a1, .int v5, .int v3, .ref a2]) (rest := []) (show decode mt_X6_findWorst.2.1 31 = .ok (.invokevirtual 44, 3) from ds_dec (i := (31, .invokevirtual 44, 3, 0, 0, 548, .int 0)) ok_X6_findWorst 18 rfl) (ds_E.mono h (fun r σ1 hr => ?_)) ⟨zw_X6_addNet.1, zw_X6_addNet.2.1, zw_X6_addNet.2.2, by decide, by decide⟩ (ds_wb_T (p := 548) (by decide +kernel)) zi_X6_addNet zs_X6_addNet (by decide) rfl ⟨_, rfl, rfl⟩ (Nat.le_of_ble_eq_true rfl)
      obtain ⟨rfl, h⟩ := hr
      show ds_X mt_X6_findWorst Yc 34 [some (.ref 12), some (.ref a1), some (.ref a2), some (.int v3), some (.int v4), some (.int v5)] [] σ1 Q
      refine ds_blk (ls2 := [some (.ref 12), some (.ref a1), some (.ref a2), some (.int v3), some (.int v4), some (.int (v5 + (1 : Int32)))]) (st2 := []) (σ2 := σ1) ok_X6_findWorst 19 1 34 37 [] rfl rfl rfl rfl trivial ?_
      refine ds_goto (show decode mt_X6_findWorst.2.1 37 = .ok (.goto (-19), 3) from ds_dec (i := (37, .goto (-19), 3, 0, 0, 0, .int 0)) ok_X6_findWorst 20 rfl) (t := 18) (by decide) ?_
      exact ih a1 a2 v3 v4 (v5 + (1 : Int32)) σ1 Q h
def w_X6_findWorst (a1 : Nat) (a2 : Nat) (σ : ds_S) (Q : Option Value → ds_S → Prop) : Prop := ds_k Yc a2 3 ∧ ds_EV mt_X3_clear Yc [.ref a2] σ (fun σ1 => ds_EI mt_X6_targetsOfLoads Yc [.ref 12] σ1 (fun r2 σ2 => ∃ n, w_X6_findWorst_18 n a1 a2 r2 (q_cn (σ2.1 12 2) (σ2.1 1 1)) (0 : Int32) σ2 Q))
theorem e_X6_findWorst (a1 : Nat) (a2 : Nat) (σ : ds_S) (Q : Option Value → ds_S → Prop) (h : w_X6_findWorst a1 a2 σ Q) : ds_E mt_X6_findWorst Yc [.ref 12, .ref a1, .ref a2] σ Q := by
  refine ds_enter (by decide) (Nat.le_of_ble_eq_true rfl) ?_
  show ds_X mt_X6_findWorst Yc 0 [some (.ref 12), some (.ref a1), some (.ref a2), none, none, none] [] σ Q
  unfold w_X6_findWorst at h
  refine ds_blk (ls2 := [some (.ref 12), some (.ref a1), some (.ref a2), none, none, none]) (st2 := [.ref a2]) (σ2 := σ) ok_X6_findWorst 0 1 0 1 [] rfl rfl rfl rfl trivial ?_
  obtain ⟨o1, h⟩ := h
  refine ds_callV (z := mt_X3_clear) (b := a2) (as := []) (rest := []) (show decode mt_X6_findWorst.2.1 1 = .ok (.invokevirtual 34, 3) from ds_dec (i := (1, .invokevirtual 34, 3, 0, 0, 539, .int 0)) ok_X6_findWorst 1 rfl) (ds_E.mono h (fun r σ1 hr => ?_)) ⟨zw_X3_clear.1, zw_X3_clear.2.1, zw_X3_clear.2.2, by decide, by decide⟩ (ds_wb_T (p := 539) (by decide +kernel)) zi_X3_clear zs_X3_clear o1.1 o1.2 ⟨_, rfl, rfl⟩ (Nat.le_of_ble_eq_true rfl)
  obtain ⟨rfl, h⟩ := hr
  show ds_X mt_X6_findWorst Yc 4 [some (.ref 12), some (.ref a1), some (.ref a2), none, none, none] [] σ1 Q
  refine ds_blk (ls2 := [some (.ref 12), some (.ref a1), some (.ref a2), none, none, none]) (st2 := [.ref 12]) (σ2 := σ1) ok_X6_findWorst 2 1 4 5 [] rfl rfl rfl rfl trivial ?_
  refine ds_callV (z := mt_X6_targetsOfLoads) (b := 12) (as := []) (rest := []) (show decode mt_X6_findWorst.2.1 5 = .ok (.invokevirtual 37, 3) from ds_dec (i := (5, .invokevirtual 37, 3, 0, 0, 540, .int 0)) ok_X6_findWorst 3 rfl) (ds_E.mono h (fun r σ2 hr => ?_)) ⟨zw_X6_targetsOfLoads.1, zw_X6_targetsOfLoads.2.1, zw_X6_targetsOfLoads.2.2, by decide, by decide⟩ (ds_wb_T (p := 540) (by decide +kernel)) zi_X6_targetsOfLoads zs_X6_targetsOfLoads (by decide) rfl ⟨_, rfl, rfl⟩ (Nat.le_of_ble_eq_true rfl)
  obtain ⟨r2, rfl, h⟩ := hr
  show ds_X mt_X6_findWorst Yc 8 [some (.ref 12), some (.ref a1), some (.ref a2), none, none, none] [.int r2] σ2 Q
  refine ds_blk (ls2 := [some (.ref 12), some (.ref a1), some (.ref a2), some (.int r2), none, none]) (st2 := [.ref 12]) (σ2 := σ2) ok_X6_findWorst 4 2 8 10 [] rfl rfl rfl rfl trivial ?_
  refine ds_callV (z := mt_X6_countNets) (b := 12) (as := []) (rest := []) (show decode mt_X6_findWorst.2.1 10 = .ok (.invokevirtual 41, 3) from ds_dec (i := (10, .invokevirtual 41, 3, 0, 0, 544, .int 0)) ok_X6_findWorst 6 rfl) (ds_E.mono (sp_X6_countNets  σ2 ) (fun r σ3 hr => ?_)) ⟨zw_X6_countNets.1, zw_X6_countNets.2.1, zw_X6_countNets.2.2, by decide, by decide⟩ (ds_wb_T (p := 544) (by decide +kernel)) zi_X6_countNets zs_X6_countNets (by decide) rfl ⟨_, rfl, rfl⟩ (Nat.le_of_ble_eq_true rfl)
  obtain ⟨x9, rfl, e8, e9⟩ := hr
  rw [e8, e9]
  show ds_X mt_X6_findWorst Yc 13 [some (.ref 12), some (.ref a1), some (.ref a2), some (.int r2), none, none] [.int (q_cn (σ2.1 12 2) (σ2.1 1 1))] σ2 Q
  refine ds_blk (ls2 := [some (.ref 12), some (.ref a1), some (.ref a2), some (.int r2), some (.int (q_cn (σ2.1 12 2) (σ2.1 1 1))), some (.int (0 : Int32))]) (st2 := []) (σ2 := σ2) ok_X6_findWorst 7 3 13 18 [] rfl rfl rfl rfl trivial ?_
  obtain ⟨n, h⟩ := h
  refine x_X6_findWorst_18 n a1 a2 r2 (q_cn (σ2.1 12 2) (σ2.1 1 1)) (0 : Int32) σ2 Q h
def w_X6_addNet_145 (a1 : Nat) (a4 : Nat) (v5 : Int32) (v6 : Int32) (σ : ds_S) (Q : Option Value → ds_S → Prop) (K46 : Int32 → Int32 → ds_S → Prop) : Prop := ds_k Yc a4 3 ∧ ds_EV mt_X3_copy Yc [.ref a4, .ref 13] σ (fun σ1 => K46 v5 (v6 + (1 : Int32)) σ1)
theorem x_X6_addNet_145 (a1 : Nat) (a4 : Nat) (v5 : Int32) (v6 : Int32) (g1 : Option Value) (g2 : Option Value) (g3 : Option Value) (g7 : Option Value) (σ : ds_S) (Q : Option Value → ds_S → Prop) (K46 : Int32 → Int32 → ds_S → Prop) (hK46 : ∀ (v5 : Int32) (v6 : Int32) (g1 : Option Value) (g2 : Option Value) (g3 : Option Value) (g7 : Option Value) (σ2 : ds_S), K46 v5 v6 σ2 → ds_X mt_X6_addNet Yc 46 [some (.ref 12), g1, g2, g3, some (.ref a4), some (.int v5), some (.int v6), g7] [] σ2 Q) (h : w_X6_addNet_145 a1 a4 v5 v6 σ Q K46) : ds_X mt_X6_addNet Yc 145 [some (.ref 12), g1, g2, g3, some (.ref a4), some (.int v5), some (.int v6), g7] [] σ Q := by
  unfold w_X6_addNet_145 at h
  refine ds_blk (ls2 := [some (.ref 12), g1, g2, g3, some (.ref a4), some (.int v5), some (.int v6), g7]) (st2 := [.ref 13, .ref a4]) (σ2 := σ) ok_X6_addNet 70 3 145 151 [ds_k Yc 12 6] rfl rfl rfl rfl ⟨⟨by decide, rfl⟩, trivial⟩ ?_
  obtain ⟨o1, h⟩ := h
  refine ds_callV (z := mt_X3_copy) (b := a4) (as := [.ref 13]) (rest := []) (show decode mt_X6_addNet.2.1 151 = .ok (.invokevirtual 91, 3) from ds_dec (i := (151, .invokevirtual 91, 3, 0, 0, 563, .int 0)) ok_X6_addNet 73 rfl) (ds_E.mono h (fun r σ1 hr => ?_)) ⟨zw_X3_copy.1, zw_X3_copy.2.1, zw_X3_copy.2.2, by decide, by decide⟩ (ds_wb_T (p := 563) (by decide +kernel)) zi_X3_copy zs_X3_copy o1.1 o1.2 ⟨_, rfl, rfl⟩ (Nat.le_of_ble_eq_true rfl)
  obtain ⟨rfl, h⟩ := hr
  show ds_X mt_X6_addNet Yc 154 [some (.ref 12), g1, g2, g3, some (.ref a4), some (.int v5), some (.int v6), g7] [] σ1 Q
  refine ds_blk (ls2 := [some (.ref 12), g1, g2, g3, some (.ref a4), some (.int v5), some (.int (v6 + (1 : Int32))), g7]) (st2 := []) (σ2 := σ1) ok_X6_addNet 74 1 154 157 [] rfl rfl rfl rfl trivial ?_
  refine ds_goto (show decode mt_X6_addNet.2.1 157 = .ok (.goto (-111), 3) from ds_dec (i := (157, .goto (-111), 3, 0, 0, 0, .int 0)) ok_X6_addNet 75 rfl) (t := 46) (by decide) ?_
  exact hK46 v5 (v6 + (1 : Int32)) _ _ _ _ σ1 h
def w_X6_addNet_46 : Nat → (a1 : Nat) → (a4 : Nat) → (v5 : Int32) → (v6 : Int32) → (σ : ds_S) → (Q : Option Value → ds_S → Prop) → Prop
  | 0, _, _, _, _, _, _ => False
  | f + 1, a1, a4, v5, v6, σ, Q => (((3 : Int32) ≤ v6 → Q none σ) ∧ (¬ (3 : Int32) ≤ v6 → vp_in v6 3 ∧ ds_EV mt_X0_sendTable Yc [.ref 8, .ref 1, .ref 6, .ref (Yc.2.2.2 2 v6.toNatClampNeg)] σ (fun σ1 => ds_EV mt_X3_clear Yc [.ref 13] σ1 (fun σ2 => ds_EV mt_X3_climb Yc [.ref 13, .ref 1, .ref 8] σ2 (fun σ3 => ds_k Yc a4 3 ∧ ((0 < (q_cmp ((σ3.2 13 0) * ((ds_wi (ds_wi σ3 13 4 v6) 13 5 v5).1 a4 1).toInt64) ((σ3.2 a4 0) * (σ3.1 13 1).toInt64)) → w_X6_addNet_145 a1 a4 v5 v6 (ds_wi (ds_wi σ3 13 4 v6) 13 5 v5) Q (fun v5_5 v6_5 σ5 => w_X6_addNet_46 f a1 a4 v5_5 v6_5 σ5 Q)) ∧ (¬ 0 < (q_cmp ((σ3.2 13 0) * ((ds_wi (ds_wi σ3 13 4 v6) 13 5 v5).1 a4 1).toInt64) ((σ3.2 a4 0) * (σ3.1 13 1).toInt64)) → ((¬ (q_cmp ((σ3.2 13 0) * ((ds_wi (ds_wi σ3 13 4 v6) 13 5 v5).1 a4 1).toInt64) ((σ3.2 a4 0) * (σ3.1 13 1).toInt64)) = 0 → w_X6_addNet_46 f a1 a4 v5 (v6 + (1 : Int32)) (ds_wi (ds_wi σ3 13 4 v6) 13 5 v5) Q) ∧ ((q_cmp ((σ3.2 13 0) * ((ds_wi (ds_wi σ3 13 4 v6) 13 5 v5).1 a4 1).toInt64) ((σ3.2 a4 0) * (σ3.1 13 1).toInt64)) = 0 → ds_k Yc a4 3 ∧ ((((ds_wi (ds_wi σ3 13 4 v6) 13 5 v5).1 a4 4) ≤ v6 → w_X6_addNet_46 f a1 a4 v5 (v6 + (1 : Int32)) (ds_wi (ds_wi σ3 13 4 v6) 13 5 v5) Q) ∧ (¬ ((ds_wi (ds_wi σ3 13 4 v6) 13 5 v5).1 a4 4) ≤ v6 → w_X6_addNet_145 a1 a4 v5 v6 (ds_wi (ds_wi σ3 13 4 v6) 13 5 v5) Q (fun v5_6 v6_6 σ6 => w_X6_addNet_46 f a1 a4 v5_6 v6_6 σ6 Q))))))))))))
theorem x_X6_addNet_46 : ∀ (f : Nat) (a1 : Nat) (a4 : Nat) (v5 : Int32) (v6 : Int32) (g1 : Option Value) (g2 : Option Value) (g3 : Option Value) (g7 : Option Value) (σ : ds_S) (Q : Option Value → ds_S → Prop), w_X6_addNet_46 f a1 a4 v5 v6 σ Q → ds_X mt_X6_addNet Yc 46 [some (.ref 12), g1, g2, g3, some (.ref a4), some (.int v5), some (.int v6), g7] [] σ Q := by
  intro f
  induction f with
  | zero => intro a1 a4 v5 v6 g1 g2 g3 g7 σ Q h; exact False.elim h
  | succ f ih =>
    intro a1 a4 v5 v6 g1 g2 g3 g7 σ Q h
    rw [w_X6_addNet_46] at h
    refine ds_blk (ls2 := [some (.ref 12), g1, g2, g3, some (.ref a4), some (.int v5), some (.int v6), g7]) (st2 := [.int (3 : Int32), .int v6]) (σ2 := σ) ok_X6_addNet 25 2 46 49 [] rfl rfl rfl rfl trivial ?_
    refine ds_ic_ge (show decode mt_X6_addNet.2.1 49 = .ok (.if_icmp .ge 111, 3) from ds_dec (i := (49, .if_icmp .ge 111, 3, 0, 0, 0, .int 0)) ok_X6_addNet 27 rfl) (t := 160) (by decide) (fun hc => ?_) (fun hc => ?_)
    · replace h := h.1 hc
      exact ds_vret (show decode mt_X6_addNet.2.1 160 = .ok (.return_, 1) from ds_dec (i := (160, .return_, 1, 0, 0, 0, .int 0)) ok_X6_addNet 76 rfl) rfl h
    · replace h := h.2 hc
      obtain ⟨o1, h⟩ := h
      refine ds_blk (ls2 := [some (.ref 12), g1, g2, g3, some (.ref a4), some (.int v5), some (.int v6), g7]) (st2 := [.ref (Yc.2.2.2 2 v6.toNatClampNeg), .ref 6, .ref 1, .ref 8]) (σ2 := σ) ok_X6_addNet 28 10 52 71 [ds_k Yc 12 6, ds_k Yc 12 6, ds_k Yc 12 6, ds_k Yc 12 6, ds_k Yc 2 14, vp_in v6 3] rfl rfl rfl rfl ⟨⟨by decide, rfl⟩, ⟨by decide, rfl⟩, ⟨by decide, rfl⟩, ⟨by decide, rfl⟩, ⟨by decide, rfl⟩, o1, trivial⟩ ?_
      refine ds_callV (z := mt_X0_sendTable) (b := 8) (as := [.ref 1, .ref 6, .ref (Yc.2.2.2 2 v6.toNatClampNeg)]) (rest := []) (show decode mt_X6_addNet.2.1 71 = .ok (.invokevirtual 71, 3) from ds_dec (i := (71, .invokevirtual 71, 3, 0, 0, 554, .int 0)) ok_X6_addNet 38 rfl) (ds_E.mono h (fun r σ1 hr => ?_)) ⟨zw_X0_sendTable.1, zw_X0_sendTable.2.1, zw_X0_sendTable.2.2, by decide, by decide⟩ (ds_wb_T (p := 554) (by decide +kernel)) zi_X0_sendTable zs_X0_sendTable (by decide) rfl ⟨_, rfl, rfl⟩ (Nat.le_of_ble_eq_true rfl)
      obtain ⟨rfl, h⟩ := hr
      show ds_X mt_X6_addNet Yc 74 [some (.ref 12), g1, g2, g3, some (.ref a4), some (.int v5), some (.int v6), g7] [] σ1 Q
      refine ds_blk (ls2 := [some (.ref 12), g1, g2, g3, some (.ref a4), some (.int v5), some (.int v6), g7]) (st2 := [.ref 13]) (σ2 := σ1) ok_X6_addNet 39 2 74 78 [ds_k Yc 12 6] rfl rfl rfl rfl ⟨⟨by decide, rfl⟩, trivial⟩ ?_
      refine ds_callV (z := mt_X3_clear) (b := 13) (as := []) (rest := []) (show decode mt_X6_addNet.2.1 78 = .ok (.invokevirtual 34, 3) from ds_dec (i := (78, .invokevirtual 34, 3, 0, 0, 539, .int 0)) ok_X6_addNet 41 rfl) (ds_E.mono h (fun r σ2 hr => ?_)) ⟨zw_X3_clear.1, zw_X3_clear.2.1, zw_X3_clear.2.2, by decide, by decide⟩ (ds_wb_T (p := 539) (by decide +kernel)) zi_X3_clear zs_X3_clear (by decide) rfl ⟨_, rfl, rfl⟩ (Nat.le_of_ble_eq_true rfl)
      obtain ⟨rfl, h⟩ := hr
      show ds_X mt_X6_addNet Yc 81 [some (.ref 12), g1, g2, g3, some (.ref a4), some (.int v5), some (.int v6), g7] [] σ2 Q
      refine ds_blk (ls2 := [some (.ref 12), g1, g2, g3, some (.ref a4), some (.int v5), some (.int v6), g7]) (st2 := [.ref 8, .ref 1, .ref 13]) (σ2 := σ2) ok_X6_addNet 42 6 81 93 [ds_k Yc 12 6, ds_k Yc 12 6, ds_k Yc 12 6] rfl rfl rfl rfl ⟨⟨by decide, rfl⟩, ⟨by decide, rfl⟩, ⟨by decide, rfl⟩, trivial⟩ ?_
      refine ds_callV (z := mt_X3_climb) (b := 13) (as := [.ref 1, .ref 8]) (rest := []) (show decode mt_X6_addNet.2.1 93 = .ok (.invokevirtual 77, 3) from ds_dec (i := (93, .invokevirtual 77, 3, 0, 0, 555, .int 0)) ok_X6_addNet 48 rfl) (ds_E.mono h (fun r σ3 hr => ?_)) ⟨zw_X3_climb.1, zw_X3_climb.2.1, zw_X3_climb.2.2, by decide, by decide⟩ (ds_wb_T (p := 555) (by decide +kernel)) zi_X3_climb zs_X3_climb (by decide) rfl ⟨_, rfl, rfl⟩ (Nat.le_of_ble_eq_true rfl)
      obtain ⟨rfl, h⟩ := hr
      show ds_X mt_X6_addNet Yc 96 [some (.ref 12), g1, g2, g3, some (.ref a4), some (.int v5), some (.int v6), g7] [] σ3 Q
      refine ds_blk (ls2 := [some (.ref 12), g1, g2, g3, some (.ref a4), some (.int v5), some (.int v6), g7]) (st2 := [.ref a4, .ref 13]) (σ2 := (ds_wi (ds_wi σ3 13 4 v6) 13 5 v5)) ok_X6_addNet 49 11 96 120 [ds_k Yc 12 6, ds_k Yc 13 3, ds_k Yc 12 6, ds_k Yc 13 3, ds_k Yc 12 6] rfl rfl rfl rfl ⟨⟨by decide, rfl⟩, ⟨by decide, rfl⟩, ⟨by decide, rfl⟩, ⟨by decide, rfl⟩, ⟨by decide, rfl⟩, trivial⟩ ?_
      obtain ⟨o2, h⟩ := h
      refine ds_callV (z := mt_X3_compareWith) (b := 13) (as := [.ref a4]) (rest := []) (show decode mt_X6_addNet.2.1 120 = .ok (.invokevirtual 87, 3) from ds_dec (i := (120, .invokevirtual 87, 3, 0, 0, 556, .int 0)) ok_X6_addNet 60 rfl) (ds_E.mono (sp_X3_compareWith 13 a4 (ds_wi (ds_wi σ3 13 4 v6) 13 5 v5) ⟨by decide, rfl⟩ o2) (fun r σ4 hr => ?_)) ⟨zw_X3_compareWith.1, zw_X3_compareWith.2.1, zw_X3_compareWith.2.2, by decide, by decide⟩ (ds_wb_T (p := 556) (by decide +kernel)) zi_X3_compareWith zs_X3_compareWith (by decide) rfl ⟨_, rfl, rfl⟩ (Nat.le_of_ble_eq_true rfl)
      obtain ⟨x9, rfl, e8, e9⟩ := hr
      rw [e8, e9]
      show ds_X mt_X6_addNet Yc 123 [some (.ref 12), g1, g2, g3, some (.ref a4), some (.int v5), some (.int v6), g7] [.int (q_cmp ((σ3.2 13 0) * ((ds_wi (ds_wi σ3 13 4 v6) 13 5 v5).1 a4 1).toInt64) ((σ3.2 a4 0) * (σ3.1 13 1).toInt64))] (ds_wi (ds_wi σ3 13 4 v6) 13 5 v5) Q
      refine ds_blk (ls2 := [some (.ref 12), g1, g2, g3, some (.ref a4), some (.int v5), some (.int v6), some (.int (q_cmp ((σ3.2 13 0) * ((ds_wi (ds_wi σ3 13 4 v6) 13 5 v5).1 a4 1).toInt64) ((σ3.2 a4 0) * (σ3.1 13 1).toInt64)))]) (st2 := [.int (q_cmp ((σ3.2 13 0) * ((ds_wi (ds_wi σ3 13 4 v6) 13 5 v5).1 a4 1).toInt64) ((σ3.2 a4 0) * (σ3.1 13 1).toInt64))]) (σ2 := (ds_wi (ds_wi σ3 13 4 v6) 13 5 v5)) ok_X6_addNet 61 2 123 127 [] rfl rfl rfl rfl trivial ?_
      refine ds_if_gt (show decode mt_X6_addNet.2.1 127 = .ok (.ifCond .gt 18, 3) from ds_dec (i := (127, .ifCond .gt 18, 3, 0, 0, 0, .int 0)) ok_X6_addNet 63 rfl) (t := 145) (by decide) (fun hc => ?_) (fun hc => ?_)
      · replace h := h.1 hc
        refine x_X6_addNet_145 a1 a4 v5 v6 _ _ _ _ (ds_wi (ds_wi σ3 13 4 v6) 13 5 v5) Q _ ?_ h
        · intro v5_5 v6_5 g1_5 g2_5 g3_5 g7_5 σ5 h
          exact ih a1 a4 v5_5 v6_5 _ _ _ _ σ5 Q h
      · replace h := h.2 hc
        refine ds_blk (ls2 := [some (.ref 12), g1, g2, g3, some (.ref a4), some (.int v5), some (.int v6), some (.int (q_cmp ((σ3.2 13 0) * ((ds_wi (ds_wi σ3 13 4 v6) 13 5 v5).1 a4 1).toInt64) ((σ3.2 a4 0) * (σ3.1 13 1).toInt64)))]) (st2 := [.int (q_cmp ((σ3.2 13 0) * ((ds_wi (ds_wi σ3 13 4 v6) 13 5 v5).1 a4 1).toInt64) ((σ3.2 a4 0) * (σ3.1 13 1).toInt64))]) (σ2 := (ds_wi (ds_wi σ3 13 4 v6) 13 5 v5)) ok_X6_addNet 64 1 130 132 [] rfl rfl rfl rfl trivial ?_
        refine ds_if_ne (show decode mt_X6_addNet.2.1 132 = .ok (.ifCond .ne 22, 3) from ds_dec (i := (132, .ifCond .ne 22, 3, 0, 0, 0, .int 0)) ok_X6_addNet 65 rfl) (t := 154) (by decide) (fun hc => ?_) (fun hc => ?_)
        · replace h := h.1 hc
          refine ds_blk (ls2 := [some (.ref 12), g1, g2, g3, some (.ref a4), some (.int v5), some (.int (v6 + (1 : Int32))), some (.int (q_cmp ((σ3.2 13 0) * ((ds_wi (ds_wi σ3 13 4 v6) 13 5 v5).1 a4 1).toInt64) ((σ3.2 a4 0) * (σ3.1 13 1).toInt64)))]) (st2 := []) (σ2 := (ds_wi (ds_wi σ3 13 4 v6) 13 5 v5)) ok_X6_addNet 74 1 154 157 [] rfl rfl rfl rfl trivial ?_
          refine ds_goto (show decode mt_X6_addNet.2.1 157 = .ok (.goto (-111), 3) from ds_dec (i := (157, .goto (-111), 3, 0, 0, 0, .int 0)) ok_X6_addNet 75 rfl) (t := 46) (by decide) ?_
          exact ih a1 a4 v5 (v6 + (1 : Int32)) _ _ _ _ (ds_wi (ds_wi σ3 13 4 v6) 13 5 v5) Q h
        · replace h := h.2 hc
          obtain ⟨o3, h⟩ := h
          refine ds_blk (ls2 := [some (.ref 12), g1, g2, g3, some (.ref a4), some (.int v5), some (.int v6), some (.int (q_cmp ((σ3.2 13 0) * ((ds_wi (ds_wi σ3 13 4 v6) 13 5 v5).1 a4 1).toInt64) ((σ3.2 a4 0) * (σ3.1 13 1).toInt64)))]) (st2 := [.int ((ds_wi (ds_wi σ3 13 4 v6) 13 5 v5).1 a4 4), .int v6]) (σ2 := (ds_wi (ds_wi σ3 13 4 v6) 13 5 v5)) ok_X6_addNet 66 3 135 142 [ds_k Yc a4 3] rfl rfl rfl rfl ⟨o3, trivial⟩ ?_
          refine ds_ic_ge (show decode mt_X6_addNet.2.1 142 = .ok (.if_icmp .ge 12, 3) from ds_dec (i := (142, .if_icmp .ge 12, 3, 0, 0, 0, .int 0)) ok_X6_addNet 69 rfl) (t := 154) (by decide) (fun hc => ?_) (fun hc => ?_)
          · replace h := h.1 hc
            refine ds_blk (ls2 := [some (.ref 12), g1, g2, g3, some (.ref a4), some (.int v5), some (.int (v6 + (1 : Int32))), some (.int (q_cmp ((σ3.2 13 0) * ((ds_wi (ds_wi σ3 13 4 v6) 13 5 v5).1 a4 1).toInt64) ((σ3.2 a4 0) * (σ3.1 13 1).toInt64)))]) (st2 := []) (σ2 := (ds_wi (ds_wi σ3 13 4 v6) 13 5 v5)) ok_X6_addNet 74 1 154 157 [] rfl rfl rfl rfl trivial ?_
            refine ds_goto (show decode mt_X6_addNet.2.1 157 = .ok (.goto (-111), 3) from ds_dec (i := (157, .goto (-111), 3, 0, 0, 0, .int 0)) ok_X6_addNet 75 rfl) (t := 46) (by decide) ?_
            exact ih a1 a4 v5 (v6 + (1 : Int32)) _ _ _ _ (ds_wi (ds_wi σ3 13 4 v6) 13 5 v5) Q h
          · replace h := h.2 hc
            refine x_X6_addNet_145 a1 a4 v5 v6 _ _ _ _ (ds_wi (ds_wi σ3 13 4 v6) 13 5 v5) Q _ ?_ h
            · intro v5_6 v6_6 g1_6 g2_6 g3_6 g7_6 σ6 h
              exact ih a1 a4 v5_6 v6_6 _ _ _ _ σ6 Q h
def w_X6_addNet_28 (a1 : Nat) (a4 : Nat) (v3 : Int32) (v5 : Int32) (σ : ds_S) (Q : Option Value → ds_S → Prop) : Prop := ds_EV mt_X4_findSome Yc [.ref 6, .ref 1, .ref a1, .int v5, .int v3] σ (fun σ1 => ∃ n, w_X6_addNet_46 n a1 a4 v5 (0 : Int32) σ1 Q)
theorem x_X6_addNet_28 (a1 : Nat) (a4 : Nat) (v3 : Int32) (v5 : Int32) (g2 : Option Value) (g6 : Option Value) (g7 : Option Value) (σ : ds_S) (Q : Option Value → ds_S → Prop) (h : w_X6_addNet_28 a1 a4 v3 v5 σ Q) : ds_X mt_X6_addNet Yc 28 [some (.ref 12), some (.ref a1), g2, some (.int v3), some (.ref a4), some (.int v5), g6, g7] [] σ Q := by
  unfold w_X6_addNet_28 at h
  refine ds_blk (ls2 := [some (.ref 12), some (.ref a1), g2, some (.int v3), some (.ref a4), some (.int v5), g6, g7]) (st2 := [.int v3, .int v5, .ref a1, .ref 1, .ref 6]) (σ2 := σ) ok_X6_addNet 15 7 28 40 [ds_k Yc 12 6, ds_k Yc 12 6] rfl rfl rfl rfl ⟨⟨by decide, rfl⟩, ⟨by decide, rfl⟩, trivial⟩ ?_
  refine ds_callV (z := mt_X4_findSome) (b := 6) (as := [.ref 1, .ref a1, .int v5, .int v3]) (rest := []) (show decode mt_X6_addNet.2.1 40 = .ok (.invokevirtual 65, 3) from ds_dec (i := (40, .invokevirtual 65, 3, 0, 0, 553, .int 0)) ok_X6_addNet 22 rfl) (ds_E.mono h (fun r σ1 hr => ?_)) ⟨zw_X4_findSome.1, zw_X4_findSome.2.1, zw_X4_findSome.2.2, by decide, by decide⟩ (ds_wb_T (p := 553) (by decide +kernel)) zi_X4_findSome zs_X4_findSome (by decide) rfl ⟨_, rfl, rfl⟩ (Nat.le_of_ble_eq_true rfl)
  obtain ⟨rfl, h⟩ := hr
  show ds_X mt_X6_addNet Yc 43 [some (.ref 12), some (.ref a1), g2, some (.int v3), some (.ref a4), some (.int v5), g6, g7] [] σ1 Q
  refine ds_blk (ls2 := [some (.ref 12), some (.ref a1), g2, some (.int v3), some (.ref a4), some (.int v5), some (.int (0 : Int32)), g7]) (st2 := []) (σ2 := σ1) ok_X6_addNet 23 2 43 46 [] rfl rfl rfl rfl trivial ?_
  obtain ⟨n, h⟩ := h
  refine x_X6_addNet_46 n a1 a4 v5 (0 : Int32) _ _ _ _ σ1 Q h
def w_X6_addNet (a1 : Nat) (a2 : Int32) (a3 : Int32) (a4 : Nat) (σ : ds_S) (Q : Option Value → ds_S → Prop) : Prop := (((a2 - (1 : Int32)) = (-1 : Int32) → w_X6_addNet_28 a1 a4 a3 (a2 - (1 : Int32)) σ Q) ∧ (¬ (a2 - (1 : Int32)) = (-1 : Int32) → ((¬ (q_bit (σ.1 1 7) (a2 - (1 : Int32))) = (1 : Int32) → w_X6_addNet_28 a1 a4 a3 (a2 - (1 : Int32)) σ Q) ∧ ((q_bit (σ.1 1 7) (a2 - (1 : Int32))) = (1 : Int32) → Q none σ))))
theorem e_X6_addNet (a1 : Nat) (a2 : Int32) (a3 : Int32) (a4 : Nat) (σ : ds_S) (Q : Option Value → ds_S → Prop) (h : w_X6_addNet a1 a2 a3 a4 σ Q) : ds_E mt_X6_addNet Yc [.ref 12, .ref a1, .int a2, .int a3, .ref a4] σ Q := by
  refine ds_enter (by decide) (Nat.le_of_ble_eq_true rfl) ?_
  show ds_X mt_X6_addNet Yc 0 [some (.ref 12), some (.ref a1), some (.int a2), some (.int a3), some (.ref a4), none, none, none] [] σ Q
  unfold w_X6_addNet at h
  refine ds_blk (ls2 := [some (.ref 12), some (.ref a1), some (.int a2), some (.int a3), some (.ref a4), some (.int (a2 - (1 : Int32))), none, none]) (st2 := [.int (-1 : Int32), .int (a2 - (1 : Int32))]) (σ2 := σ) ok_X6_addNet 0 6 0 8 [] rfl rfl rfl rfl trivial ?_
  refine ds_ic_eq (show decode mt_X6_addNet.2.1 8 = .ok (.if_icmp .eq 20, 3) from ds_dec (i := (8, .if_icmp .eq 20, 3, 0, 0, 0, .int 0)) ok_X6_addNet 6 rfl) (t := 28) (by decide) (fun hc => ?_) (fun hc => ?_)
  · replace h := h.1 hc
    refine x_X6_addNet_28 a1 a4 a3 (a2 - (1 : Int32)) _ _ _ σ Q h
  · replace h := h.2 hc
    refine ds_blk (ls2 := [some (.ref 12), some (.ref a1), some (.int a2), some (.int a3), some (.ref a4), some (.int (a2 - (1 : Int32))), none, none]) (st2 := [.int (a2 - (1 : Int32)), .int (σ.1 1 7)]) (σ2 := σ) ok_X6_addNet 7 4 11 20 [ds_k Yc 12 6, ds_k Yc 1 1] rfl rfl rfl rfl ⟨⟨by decide, rfl⟩, ⟨by decide, rfl⟩, trivial⟩ ?_
    refine ds_callN (z := mt_X8_bit) (as := [.int (σ.1 1 7), .int (a2 - (1 : Int32))]) (rest := []) (show decode mt_X6_addNet.2.1 20 = .ok (.invokestatic 61, 3) from ds_dec (i := (20, .invokestatic 61, 3, 0, 0, 0, .int 0)) ok_X6_addNet 11 rfl) (ds_E.mono (sp_X8_bit (σ.1 1 7) (a2 - (1 : Int32)) σ ) (fun r σ1 hr => ?_)) ⟨zw_X8_bit.1, zw_X8_bit.2.1, zw_X8_bit.2.2, by decide, by decide⟩ (by decide +kernel) zt_X8_bit (Nat.le_of_ble_eq_true rfl)
    obtain ⟨x9, rfl, e8, e9⟩ := hr
    rw [e8, e9]
    show ds_X mt_X6_addNet Yc 23 [some (.ref 12), some (.ref a1), some (.int a2), some (.int a3), some (.ref a4), some (.int (a2 - (1 : Int32))), none, none] [.int (q_bit (σ.1 1 7) (a2 - (1 : Int32)))] σ Q
    refine ds_blk (ls2 := [some (.ref 12), some (.ref a1), some (.int a2), some (.int a3), some (.ref a4), some (.int (a2 - (1 : Int32))), none, none]) (st2 := [.int (1 : Int32), .int (q_bit (σ.1 1 7) (a2 - (1 : Int32)))]) (σ2 := σ) ok_X6_addNet 12 1 23 24 [] rfl rfl rfl rfl trivial ?_
    refine ds_ic_ne (show decode mt_X6_addNet.2.1 24 = .ok (.if_icmp .ne 4, 3) from ds_dec (i := (24, .if_icmp .ne 4, 3, 0, 0, 0, .int 0)) ok_X6_addNet 13 rfl) (t := 28) (by decide) (fun hc => ?_) (fun hc => ?_)
    · replace h := h.1 hc
      refine x_X6_addNet_28 a1 a4 a3 (a2 - (1 : Int32)) _ _ _ σ Q h
    · replace h := h.2 hc
      exact ds_vret (show decode mt_X6_addNet.2.1 27 = .ok (.return_, 1) from ds_dec (i := (27, .return_, 1, 0, 0, 0, .int 0)) ok_X6_addNet 14 rfl) rfl h
def w_X6_targetsOfLoads_11 : Nat → (v1 : Int32) → (v2 : Int32) → (v3 : Int32) → (σ : ds_S) → (Q : Option Value → ds_S → Prop) → (K43 : Int32 → Int32 → ds_S → Prop) → Prop
  | 0, _, _, _, _, _, _ => False
  | f + 1, v1, v2, v3, σ, Q, K43 => (((36 : Int32) ≤ v3 → K43 v1 v2 σ) ∧ (¬ (36 : Int32) ≤ v3 → vp_in v2 3 ∧ ds_k Yc (Yc.2.2.2 2 v2.toNatClampNeg) 10 ∧ vp_in v3 (Yc.2.2.1 (Yc.2.2.2 2 v2.toNatClampNeg)) ∧ (((σ.1 (Yc.2.2.2 2 v2.toNatClampNeg) v3.toNatClampNeg) ≤ 0 → w_X6_targetsOfLoads_11 f v1 v2 (v3 + (1 : Int32)) σ Q K43) ∧ (¬ (σ.1 (Yc.2.2.2 2 v2.toNatClampNeg) v3.toNatClampNeg) ≤ 0 → w_X6_targetsOfLoads_11 f (v1 ||| ((1 : Int32) <<< ((v3 - v3 / (6 : Int32) * (6 : Int32)) &&& 31))) v2 (v3 + (1 : Int32)) σ Q K43))))
theorem x_X6_targetsOfLoads_11 : ∀ (f : Nat) (v1 : Int32) (v2 : Int32) (v3 : Int32) (σ : ds_S) (Q : Option Value → ds_S → Prop) (K43 : Int32 → Int32 → ds_S → Prop) (hK43 : ∀ (v1 : Int32) (v2 : Int32) (g3 : Option Value) (σ2 : ds_S), K43 v1 v2 σ2 → ds_X mt_X6_targetsOfLoads Yc 43 [some (.ref 12), some (.int v1), some (.int v2), g3] [] σ2 Q), w_X6_targetsOfLoads_11 f v1 v2 v3 σ Q K43 → ds_X mt_X6_targetsOfLoads Yc 11 [some (.ref 12), some (.int v1), some (.int v2), some (.int v3)] [] σ Q := by
  intro f
  induction f with
  | zero => intro v1 v2 v3 σ Q K43 hK43 h; exact False.elim h
  | succ f ih =>
    intro v1 v2 v3 σ Q K43 hK43 h
    rw [w_X6_targetsOfLoads_11] at h
    refine ds_blk (ls2 := [some (.ref 12), some (.int v1), some (.int v2), some (.int v3)]) (st2 := [.int (36 : Int32), .int v3]) (σ2 := σ) ok_X6_targetsOfLoads 9 2 11 14 [] rfl rfl rfl rfl trivial ?_
    refine ds_ic_ge (show decode mt_X6_targetsOfLoads.2.1 14 = .ok (.if_icmp .ge 29, 3) from ds_dec (i := (14, .if_icmp .ge 29, 3, 0, 0, 0, .int 0)) ok_X6_targetsOfLoads 11 rfl) (t := 43) (by decide) (fun hc => ?_) (fun hc => ?_)
    · replace h := h.1 hc
      exact hK43 v1 v2 _ σ h
    · replace h := h.2 hc
      obtain ⟨o1, o2, o3, h⟩ := h
      refine ds_blk (ls2 := [some (.ref 12), some (.int v1), some (.int v2), some (.int v3)]) (st2 := [.int (σ.1 (Yc.2.2.2 2 v2.toNatClampNeg) v3.toNatClampNeg)]) (σ2 := σ) ok_X6_targetsOfLoads 12 6 17 25 [ds_k Yc 12 6, ds_k Yc 2 14, vp_in v2 3, ds_k Yc (Yc.2.2.2 2 v2.toNatClampNeg) 10, vp_in v3 (Yc.2.2.1 (Yc.2.2.2 2 v2.toNatClampNeg))] rfl rfl rfl rfl ⟨⟨by decide, rfl⟩, ⟨by decide, rfl⟩, o1, o2, o3, trivial⟩ ?_
      refine ds_if_le (show decode mt_X6_targetsOfLoads.2.1 25 = .ok (.ifCond .le 12, 3) from ds_dec (i := (25, .ifCond .le 12, 3, 0, 0, 0, .int 0)) ok_X6_targetsOfLoads 18 rfl) (t := 37) (by decide) (fun hc => ?_) (fun hc => ?_)
      · replace h := h.1 hc
        refine ds_blk (ls2 := [some (.ref 12), some (.int v1), some (.int v2), some (.int (v3 + (1 : Int32)))]) (st2 := []) (σ2 := σ) ok_X6_targetsOfLoads 27 1 37 40 [] rfl rfl rfl rfl trivial ?_
        refine ds_goto (show decode mt_X6_targetsOfLoads.2.1 40 = .ok (.goto (-29), 3) from ds_dec (i := (40, .goto (-29), 3, 0, 0, 0, .int 0)) ok_X6_targetsOfLoads 28 rfl) (t := 11) (by decide) ?_
        exact ih v1 v2 (v3 + (1 : Int32)) σ Q K43 hK43 h
      · replace h := h.2 hc
        refine ds_blk (ls2 := [some (.ref 12), some (.int (v1 ||| ((1 : Int32) <<< ((v3 - v3 / (6 : Int32) * (6 : Int32)) &&& 31)))), some (.int v2), some (.int (v3 + (1 : Int32)))]) (st2 := []) (σ2 := σ) ok_X6_targetsOfLoads 19 9 28 40 [¬ (6 : Int32) = 0] rfl rfl rfl rfl ⟨(by decide), trivial⟩ ?_
        refine ds_goto (show decode mt_X6_targetsOfLoads.2.1 40 = .ok (.goto (-29), 3) from ds_dec (i := (40, .goto (-29), 3, 0, 0, 0, .int 0)) ok_X6_targetsOfLoads 28 rfl) (t := 11) (by decide) ?_
        exact ih (v1 ||| ((1 : Int32) <<< ((v3 - v3 / (6 : Int32) * (6 : Int32)) &&& 31))) v2 (v3 + (1 : Int32)) σ Q K43 hK43 h
def w_X6_targetsOfLoads_4 : Nat → (v1 : Int32) → (v2 : Int32) → (σ : ds_S) → (Q : Option Value → ds_S → Prop) → Prop
  | 0, _, _, _, _ => False
  | f + 1, v1, v2, σ, Q => (((3 : Int32) ≤ v2 → Q (some (.int v1)) σ) ∧ (¬ (3 : Int32) ≤ v2 → ∃ n, w_X6_targetsOfLoads_11 n v1 v2 (0 : Int32) σ Q (fun v1_1 v2_1 σ1 => w_X6_targetsOfLoads_4 f v1_1 (v2_1 + (1 : Int32)) σ1 Q)))
theorem x_X6_targetsOfLoads_4 : ∀ (f : Nat) (v1 : Int32) (v2 : Int32) (g3 : Option Value) (σ : ds_S) (Q : Option Value → ds_S → Prop), w_X6_targetsOfLoads_4 f v1 v2 σ Q → ds_X mt_X6_targetsOfLoads Yc 4 [some (.ref 12), some (.int v1), some (.int v2), g3] [] σ Q := by
  intro f
  induction f with
  | zero => intro v1 v2 g3 σ Q h; exact False.elim h
  | succ f ih =>
    intro v1 v2 g3 σ Q h
    rw [w_X6_targetsOfLoads_4] at h
    refine ds_blk (ls2 := [some (.ref 12), some (.int v1), some (.int v2), g3]) (st2 := [.int (3 : Int32), .int v2]) (σ2 := σ) ok_X6_targetsOfLoads 4 2 4 6 [] rfl rfl rfl rfl trivial ?_
    refine ds_ic_ge (show decode mt_X6_targetsOfLoads.2.1 6 = .ok (.if_icmp .ge 43, 3) from ds_dec (i := (6, .if_icmp .ge 43, 3, 0, 0, 0, .int 0)) ok_X6_targetsOfLoads 6 rfl) (t := 49) (by decide) (fun hc => ?_) (fun hc => ?_)
    · replace h := h.1 hc
      refine ds_blk (ls2 := [some (.ref 12), some (.int v1), some (.int v2), g3]) (st2 := [.int v1]) (σ2 := σ) ok_X6_targetsOfLoads 31 1 49 50 [] rfl rfl rfl rfl trivial ?_
      exact ds_iret (show decode mt_X6_targetsOfLoads.2.1 50 = .ok (.ireturn, 1) from ds_dec (i := (50, .ireturn, 1, 0, 0, 0, .int 0)) ok_X6_targetsOfLoads 32 rfl) rfl h
    · replace h := h.2 hc
      refine ds_blk (ls2 := [some (.ref 12), some (.int v1), some (.int v2), some (.int (0 : Int32))]) (st2 := []) (σ2 := σ) ok_X6_targetsOfLoads 7 2 9 11 [] rfl rfl rfl rfl trivial ?_
      obtain ⟨n, h⟩ := h
      refine x_X6_targetsOfLoads_11 n v1 v2 (0 : Int32) σ Q _ ?_ h
      · intro v1_1 v2_1 g3_1 σ1 h
        refine ds_blk (ls2 := [some (.ref 12), some (.int v1_1), some (.int (v2_1 + (1 : Int32))), g3_1]) (st2 := []) (σ2 := σ1) ok_X6_targetsOfLoads 29 1 43 46 [] rfl rfl rfl rfl trivial ?_
        refine ds_goto (show decode mt_X6_targetsOfLoads.2.1 46 = .ok (.goto (-42), 3) from ds_dec (i := (46, .goto (-42), 3, 0, 0, 0, .int 0)) ok_X6_targetsOfLoads 30 rfl) (t := 4) (by decide) ?_
        exact ih v1_1 (v2_1 + (1 : Int32)) _ σ1 Q h
def w_X6_targetsOfLoads (σ : ds_S) (Q : Option Value → ds_S → Prop) : Prop := ∃ n, w_X6_targetsOfLoads_4 n (0 : Int32) (0 : Int32) σ Q
theorem e_X6_targetsOfLoads (σ : ds_S) (Q : Option Value → ds_S → Prop) (h : w_X6_targetsOfLoads σ Q) : ds_E mt_X6_targetsOfLoads Yc [.ref 12] σ Q := by
  refine ds_enter (by decide) (Nat.le_of_ble_eq_true rfl) ?_
  show ds_X mt_X6_targetsOfLoads Yc 0 [some (.ref 12), none, none, none] [] σ Q
  unfold w_X6_targetsOfLoads at h
  refine ds_blk (ls2 := [some (.ref 12), some (.int (0 : Int32)), some (.int (0 : Int32)), none]) (st2 := []) (σ2 := σ) ok_X6_targetsOfLoads 0 4 0 4 [] rfl rfl rfl rfl trivial ?_
  obtain ⟨n, h⟩ := h
  refine x_X6_targetsOfLoads_4 n (0 : Int32) (0 : Int32) _ σ Q h
def w_X7_find_36 : Nat → (a0 : Nat) → (a2 : Nat) → (v3 : Int32) → (v5 : Int32) → (v6 : Int32) → (σ : ds_S) → (Q : Option Value → ds_S → Prop) → (K60 : Int32 → ds_S → Prop) → (K110 : Int32 → ds_S → Prop) → Prop
  | 0, _, _, _, _, _, _, _, _, _ => False
  | f + 1, a0, a2, v3, v5, v6, σ, Q, K60, K110 => (((σ.1 1 0) ≤ v6 → K110 v3 σ) ∧ (¬ (σ.1 1 0) ≤ v6 → ds_k Yc a0 7 ∧ ds_EI mt_X7_nearest Yc [.ref a0, .ref 1, .int v5] σ (fun r1 σ1 => ((¬ r1 = (-1 : Int32) → ds_k Yc a0 7 ∧ ds_k Yc a0 7 ∧ ds_k Yc (Yc.2.2.2 a0 1) 10 ∧ vp_in (σ1.1 a0 2) (Yc.2.2.1 (Yc.2.2.2 a0 1)) ∧ ds_k Yc a0 7 ∧ ds_k Yc a0 7 ∧ ds_k Yc a0 7 ∧ ds_EV mt_X7_comeNearerBy Yc [.ref a0, .int r1, .ref 1, .ref a2, .int v3] (ds_wi (ds_wi σ1 (Yc.2.2.2 a0 1) ((σ1.1 a0 2).toNatClampNeg) r1) a0 2 (((ds_wi σ1 (Yc.2.2.2 a0 1) ((σ1.1 a0 2).toNatClampNeg) r1).1 a0 2) + (1 : Int32))) (fun σ2 => w_X7_find_36 f a0 a2 v3 (v5 &&& (((1 : Int32) <<< (r1 &&& 31)) ^^^ (-1 : Int32))) (v6 + (1 : Int32)) σ2 Q K60 K110)) ∧ (r1 = (-1 : Int32) → K60 v3 σ1)))))
theorem x_X7_find_36 : ∀ (f : Nat) (a0 : Nat) (a2 : Nat) (v3 : Int32) (v5 : Int32) (v6 : Int32) (g4 : Option Value) (g7 : Option Value) (σ : ds_S) (Q : Option Value → ds_S → Prop) (K60 : Int32 → ds_S → Prop) (K110 : Int32 → ds_S → Prop) (hK60 : ∀ (v3 : Int32) (g4 : Option Value) (g5 : Option Value) (g6 : Option Value) (g7 : Option Value) (σ2 : ds_S), K60 v3 σ2 → ds_X mt_X7_find Yc 60 [some (.ref a0), some (.ref 1), some (.ref a2), some (.int v3), g4, g5, g6, g7] [] σ2 Q) (hK110 : ∀ (v3 : Int32) (g4 : Option Value) (g5 : Option Value) (g6 : Option Value) (g7 : Option Value) (σ2 : ds_S), K110 v3 σ2 → ds_X mt_X7_find Yc 110 [some (.ref a0), some (.ref 1), some (.ref a2), some (.int v3), g4, g5, g6, g7] [] σ2 Q), w_X7_find_36 f a0 a2 v3 v5 v6 σ Q K60 K110 → ds_X mt_X7_find Yc 36 [some (.ref a0), some (.ref 1), some (.ref a2), some (.int v3), g4, some (.int v5), some (.int v6), g7] [] σ Q := by
  intro f
  induction f with
  | zero => intro a0 a2 v3 v5 v6 g4 g7 σ Q K60 K110 hK60 hK110 h; exact False.elim h
  | succ f ih =>
    intro a0 a2 v3 v5 v6 g4 g7 σ Q K60 K110 hK60 hK110 h
    rw [w_X7_find_36] at h
    refine ds_blk (ls2 := [some (.ref a0), some (.ref 1), some (.ref a2), some (.int v3), g4, some (.int v5), some (.int v6), g7]) (st2 := [.int (σ.1 1 0), .int v6]) (σ2 := σ) ok_X7_find 21 3 36 42 [ds_k Yc 1 1] rfl rfl rfl rfl ⟨⟨by decide, rfl⟩, trivial⟩ ?_
    refine ds_ic_ge (show decode mt_X7_find.2.1 42 = .ok (.if_icmp .ge 68, 3) from ds_dec (i := (42, .if_icmp .ge 68, 3, 0, 0, 0, .int 0)) ok_X7_find 24 rfl) (t := 110) (by decide) (fun hc => ?_) (fun hc => ?_)
    · replace h := h.1 hc
      exact hK110 v3 _ _ _ _ σ h
    · replace h := h.2 hc
      refine ds_blk (ls2 := [some (.ref a0), some (.ref 1), some (.ref a2), some (.int v3), g4, some (.int v5), some (.int v6), g7]) (st2 := [.int v5, .ref 1, .ref a0]) (σ2 := σ) ok_X7_find 25 3 45 49 [] rfl rfl rfl rfl trivial ?_
      obtain ⟨o1, h⟩ := h
      refine ds_callV (z := mt_X7_nearest) (b := a0) (as := [.ref 1, .int v5]) (rest := []) (show decode mt_X7_find.2.1 49 = .ok (.invokevirtual 42, 3) from ds_dec (i := (49, .invokevirtual 42, 3, 0, 0, 440, .int 0)) ok_X7_find 28 rfl) (ds_E.mono h (fun r σ1 hr => ?_)) ⟨zw_X7_nearest.1, zw_X7_nearest.2.1, zw_X7_nearest.2.2, by decide, by decide⟩ (ds_wb_T (p := 440) (by decide +kernel)) zi_X7_nearest zs_X7_nearest o1.1 o1.2 ⟨_, rfl, rfl⟩ (Nat.le_of_ble_eq_true rfl)
      obtain ⟨r1, rfl, h⟩ := hr
      show ds_X mt_X7_find Yc 52 [some (.ref a0), some (.ref 1), some (.ref a2), some (.int v3), g4, some (.int v5), some (.int v6), g7] [.int r1] σ1 Q
      refine ds_blk (ls2 := [some (.ref a0), some (.ref 1), some (.ref a2), some (.int v3), g4, some (.int v5), some (.int v6), some (.int r1)]) (st2 := [.int (-1 : Int32), .int r1]) (σ2 := σ1) ok_X7_find 29 3 52 57 [] rfl rfl rfl rfl trivial ?_
      refine ds_ic_ne (show decode mt_X7_find.2.1 57 = .ok (.if_icmp .ne 6, 3) from ds_dec (i := (57, .if_icmp .ne 6, 3, 0, 0, 0, .int 0)) ok_X7_find 32 rfl) (t := 63) (by decide) (fun hc => ?_) (fun hc => ?_)
      · replace h := h.1 hc
        obtain ⟨o2, o3, o4, o5, o6, o7, h⟩ := h
        refine ds_blk (ls2 := [some (.ref a0), some (.ref 1), some (.ref a2), some (.int v3), (ds_nl g4), some (.int (v5 &&& (((1 : Int32) <<< (r1 &&& 31)) ^^^ (-1 : Int32)))), some (.int v6), some (.int r1)]) (st2 := [.int v3, .ref a2, .ref 1, .int r1, .ref a0]) (σ2 := (ds_wi (ds_wi σ1 (Yc.2.2.2 a0 1) ((σ1.1 a0 2).toNatClampNeg) r1) a0 2 (((ds_wi σ1 (Yc.2.2.2 a0 1) ((σ1.1 a0 2).toNatClampNeg) r1).1 a0 2) + (1 : Int32)))) ok_X7_find 34 25 63 101 [ds_k Yc a0 7, ds_k Yc a0 7, ds_k Yc (Yc.2.2.2 a0 1) 10, vp_in (σ1.1 a0 2) (Yc.2.2.1 (Yc.2.2.2 a0 1)), ds_k Yc a0 7, ds_k Yc a0 7] rfl rfl rfl rfl ⟨o2, o3, o4, o5, o6, o7, trivial⟩ ?_
        obtain ⟨o8, h⟩ := h
        refine ds_callV (z := mt_X7_comeNearerBy) (b := a0) (as := [.int r1, .ref 1, .ref a2, .int v3]) (rest := []) (show decode mt_X7_find.2.1 101 = .ok (.invokevirtual 46, 3) from ds_dec (i := (101, .invokevirtual 46, 3, 0, 0, 444, .int 0)) ok_X7_find 59 rfl) (ds_E.mono h (fun r σ2 hr => ?_)) ⟨zw_X7_comeNearerBy.1, zw_X7_comeNearerBy.2.1, zw_X7_comeNearerBy.2.2, by decide, by decide⟩ (ds_wb_T (p := 444) (by decide +kernel)) zi_X7_comeNearerBy zs_X7_comeNearerBy o8.1 o8.2 ⟨_, rfl, rfl⟩ (Nat.le_of_ble_eq_true rfl)
        obtain ⟨rfl, h⟩ := hr
        show ds_X mt_X7_find Yc 104 [some (.ref a0), some (.ref 1), some (.ref a2), some (.int v3), (ds_nl g4), some (.int (v5 &&& (((1 : Int32) <<< (r1 &&& 31)) ^^^ (-1 : Int32)))), some (.int v6), some (.int r1)] [] σ2 Q
        refine ds_blk (ls2 := [some (.ref a0), some (.ref 1), some (.ref a2), some (.int v3), (ds_nl g4), some (.int (v5 &&& (((1 : Int32) <<< (r1 &&& 31)) ^^^ (-1 : Int32)))), some (.int (v6 + (1 : Int32))), some (.int r1)]) (st2 := []) (σ2 := σ2) ok_X7_find 60 1 104 107 [] rfl rfl rfl rfl trivial ?_
        refine ds_goto (show decode mt_X7_find.2.1 107 = .ok (.goto (-71), 3) from ds_dec (i := (107, .goto (-71), 3, 0, 0, 0, .int 0)) ok_X7_find 61 rfl) (t := 36) (by decide) ?_
        exact ih a0 a2 v3 (v5 &&& (((1 : Int32) <<< (r1 &&& 31)) ^^^ (-1 : Int32))) (v6 + (1 : Int32)) _ _ σ2 Q K60 K110 hK60 hK110 h
      · replace h := h.2 hc
        exact hK60 v3 _ _ _ _ σ1 h
def w_X7_find_110 (a0 : Nat) (a2 : Nat) (v3 : Int32) (σ : ds_S) (Q : Option Value → ds_S → Prop) : Prop := ds_k Yc a0 7 ∧ ds_EV mt_X7_findNext Yc [.ref a0, .ref 1, .ref a2, .int v3] σ (fun σ1 => Q none σ1)
theorem x_X7_find_110 (a0 : Nat) (a2 : Nat) (v3 : Int32) (g4 : Option Value) (g5 : Option Value) (g6 : Option Value) (g7 : Option Value) (σ : ds_S) (Q : Option Value → ds_S → Prop) (h : w_X7_find_110 a0 a2 v3 σ Q) : ds_X mt_X7_find Yc 110 [some (.ref a0), some (.ref 1), some (.ref a2), some (.int v3), g4, g5, g6, g7] [] σ Q := by
  unfold w_X7_find_110 at h
  refine ds_blk (ls2 := [some (.ref a0), some (.ref 1), some (.ref a2), some (.int v3), g4, g5, g6, g7]) (st2 := [.int v3, .ref a2, .ref 1, .ref a0]) (σ2 := σ) ok_X7_find 62 4 110 114 [] rfl rfl rfl rfl trivial ?_
  obtain ⟨o1, h⟩ := h
  refine ds_callV (z := mt_X7_findNext) (b := a0) (as := [.ref 1, .ref a2, .int v3]) (rest := []) (show decode mt_X7_find.2.1 114 = .ok (.invokevirtual 50, 3) from ds_dec (i := (114, .invokevirtual 50, 3, 0, 0, 448, .int 0)) ok_X7_find 66 rfl) (ds_E.mono h (fun r σ1 hr => ?_)) ⟨zw_X7_findNext.1, zw_X7_findNext.2.1, zw_X7_findNext.2.2, by decide, by decide⟩ (ds_wb_T (p := 448) (by decide +kernel)) zi_X7_findNext zs_X7_findNext o1.1 o1.2 ⟨_, rfl, rfl⟩ (Nat.le_of_ble_eq_true rfl)
  obtain ⟨rfl, h⟩ := hr
  show ds_X mt_X7_find Yc 117 [some (.ref a0), some (.ref 1), some (.ref a2), some (.int v3), g4, g5, g6, g7] [] σ1 Q
  exact ds_vret (show decode mt_X7_find.2.1 117 = .ok (.return_, 1) from ds_dec (i := (117, .return_, 1, 0, 0, 0, .int 0)) ok_X7_find 67 rfl) rfl h
def w_X7_find (a0 : Nat) (a2 : Nat) (a3 : Int32) (a4 : Int32) (σ : ds_S) (Q : Option Value → ds_S → Prop) : Prop := ds_k Yc a0 7 ∧ ds_EV mt_J7_fill_53178 Yc [.ref (Yc.2.2.2 a0 0), .int (1000 : Int32)] σ (fun σ1 => ds_k Yc a0 7 ∧ ds_k Yc (Yc.2.2.2 a0 0) 10 ∧ vp_in a4 (Yc.2.2.1 (Yc.2.2.2 a0 0)) ∧ ds_k Yc a0 7 ∧ (∃ n, w_X7_find_36 n a0 a2 a3 (((1 : Int32) <<< (((ds_wi (ds_wi σ1 (Yc.2.2.2 a0 0) a4.toNatClampNeg (0 : Int32)) a0 2 (0 : Int32)).1 1 0) &&& 31)) - (1 : Int32)) (0 : Int32) (ds_wi (ds_wi σ1 (Yc.2.2.2 a0 0) a4.toNatClampNeg (0 : Int32)) a0 2 (0 : Int32)) Q (fun v3_2 σ2 => w_X7_find_110 a0 a2 v3_2 σ2 Q) (fun v3_3 σ3 => w_X7_find_110 a0 a2 v3_3 σ3 Q)))
theorem e_X7_find (a0 : Nat) (a2 : Nat) (a3 : Int32) (a4 : Int32) (σ : ds_S) (Q : Option Value → ds_S → Prop) (h : w_X7_find a0 a2 a3 a4 σ Q) : ds_E mt_X7_find Yc [.ref a0, .ref 1, .ref a2, .int a3, .int a4] σ Q := by
  refine ds_enter (by decide) (Nat.le_of_ble_eq_true rfl) ?_
  show ds_X mt_X7_find Yc 0 [some (.ref a0), some (.ref 1), some (.ref a2), some (.int a3), some (.int a4), none, none, none] [] σ Q
  unfold w_X7_find at h
  obtain ⟨o1, h⟩ := h
  refine ds_blk (ls2 := [some (.ref a0), some (.ref 1), some (.ref a2), some (.int a3), some (.int a4), none, none, none]) (st2 := [.int (1000 : Int32), .ref (Yc.2.2.2 a0 0)]) (σ2 := σ) ok_X7_find 0 3 0 7 [ds_k Yc a0 7] rfl rfl rfl rfl ⟨o1, trivial⟩ ?_
  refine ds_callS (z := mt_J7_fill_53178) (as := [.ref (Yc.2.2.2 a0 0), .int (1000 : Int32)]) (rest := []) (show decode mt_X7_find.2.1 7 = .ok (.invokestatic 27, 3) from ds_dec (i := (7, .invokestatic 27, 3, 0, 0, 439, .int 0)) ok_X7_find 3 rfl) (ds_E.mono h (fun r σ1 hr => ?_)) ⟨zw_J7_fill_53178.1, zw_J7_fill_53178.2.1, zw_J7_fill_53178.2.2, by decide, by decide⟩ (ds_wb_T (p := 439) (by decide +kernel)) zt_J7_fill_53178 (Nat.le_of_ble_eq_true rfl)
  obtain ⟨rfl, h⟩ := hr
  show ds_X mt_X7_find Yc 10 [some (.ref a0), some (.ref 1), some (.ref a2), some (.int a3), some (.int a4), none, none, none] [] σ1 Q
  obtain ⟨o2, o3, o4, o5, h⟩ := h
  refine ds_blk (ls2 := [some (.ref a0), some (.ref 1), some (.ref a2), some (.int a3), some (.int a4), some (.int (((1 : Int32) <<< (((ds_wi (ds_wi σ1 (Yc.2.2.2 a0 0) a4.toNatClampNeg (0 : Int32)) a0 2 (0 : Int32)).1 1 0) &&& 31)) - (1 : Int32))), some (.int (0 : Int32)), none]) (st2 := []) (σ2 := (ds_wi (ds_wi σ1 (Yc.2.2.2 a0 0) a4.toNatClampNeg (0 : Int32)) a0 2 (0 : Int32))) ok_X7_find 4 17 10 36 [ds_k Yc a0 7, ds_k Yc (Yc.2.2.2 a0 0) 10, vp_in a4 (Yc.2.2.1 (Yc.2.2.2 a0 0)), ds_k Yc a0 7, ds_k Yc 1 1] rfl rfl rfl rfl ⟨o2, o3, o4, o5, ⟨by decide, rfl⟩, trivial⟩ ?_
  obtain ⟨n, h⟩ := h
  refine x_X7_find_36 n a0 a2 a3 (((1 : Int32) <<< (((ds_wi (ds_wi σ1 (Yc.2.2.2 a0 0) a4.toNatClampNeg (0 : Int32)) a0 2 (0 : Int32)).1 1 0) &&& 31)) - (1 : Int32)) (0 : Int32) _ _ (ds_wi (ds_wi σ1 (Yc.2.2.2 a0 0) a4.toNatClampNeg (0 : Int32)) a0 2 (0 : Int32)) Q _ _ ?_ ?_ h
  · intro v3_2 g4_2 g5_2 g6_2 g7_2 σ2 h
    refine ds_goto (show decode mt_X7_find.2.1 60 = .ok (.goto 50, 3) from ds_dec (i := (60, .goto 50, 3, 0, 0, 0, .int 0)) ok_X7_find 33 rfl) (t := 110) (by decide) ?_
    refine x_X7_find_110 a0 a2 v3_2 _ _ _ _ σ2 Q h
  · intro v3_3 g4_3 g5_3 g6_3 g7_3 σ3 h
    refine x_X7_find_110 a0 a2 v3_3 _ _ _ _ σ3 Q h
def w_X7_nearest_10 : Nat → (a0 : Nat) → (v2 : Int32) → (v3 : Int32) → (v4 : Int32) → (v5 : Int32) → (σ : ds_S) → (Q : Option Value → ds_S → Prop) → Prop
  | 0, _, _, _, _, _, _, _ => False
  | f + 1, a0, v2, v3, v4, v5, σ, Q => (((σ.1 1 0) ≤ v5 → Q (some (.int v3)) σ) ∧ (¬ (σ.1 1 0) ≤ v5 → ds_k Yc a0 7 ∧ ds_k Yc (Yc.2.2.2 a0 0) 10 ∧ vp_in v5 (Yc.2.2.1 (Yc.2.2.2 a0 0)) ∧ ((v4 ≤ (σ.1 (Yc.2.2.2 a0 0) v5.toNatClampNeg) → w_X7_nearest_10 f a0 v2 v3 v4 (v5 + (1 : Int32)) σ Q) ∧ (¬ v4 ≤ (σ.1 (Yc.2.2.2 a0 0) v5.toNatClampNeg) → ((¬ ((v2 >>> (v5 &&& 31)) &&& (1 : Int32)) = (1 : Int32) → w_X7_nearest_10 f a0 v2 v3 v4 (v5 + (1 : Int32)) σ Q) ∧ (((v2 >>> (v5 &&& 31)) &&& (1 : Int32)) = (1 : Int32) → ds_k Yc a0 7 ∧ ds_k Yc (Yc.2.2.2 a0 0) 10 ∧ vp_in v5 (Yc.2.2.1 (Yc.2.2.2 a0 0)) ∧ w_X7_nearest_10 f a0 v2 v5 (σ.1 (Yc.2.2.2 a0 0) v5.toNatClampNeg) (v5 + (1 : Int32)) σ Q))))))
theorem x_X7_nearest_10 : ∀ (f : Nat) (a0 : Nat) (v2 : Int32) (v3 : Int32) (v4 : Int32) (v5 : Int32) (σ : ds_S) (Q : Option Value → ds_S → Prop), w_X7_nearest_10 f a0 v2 v3 v4 v5 σ Q → ds_X mt_X7_nearest Yc 10 [some (.ref a0), some (.ref 1), some (.int v2), some (.int v3), some (.int v4), some (.int v5)] [] σ Q := by
  intro f
  induction f with
  | zero => intro a0 v2 v3 v4 v5 σ Q h; exact False.elim h
  | succ f ih =>
    intro a0 v2 v3 v4 v5 σ Q h
    rw [w_X7_nearest_10] at h
    refine ds_blk (ls2 := [some (.ref a0), some (.ref 1), some (.int v2), some (.int v3), some (.int v4), some (.int v5)]) (st2 := [.int (σ.1 1 0), .int v5]) (σ2 := σ) ok_X7_nearest 6 3 10 16 [ds_k Yc 1 1] rfl rfl rfl rfl ⟨⟨by decide, rfl⟩, trivial⟩ ?_
    refine ds_ic_ge (show decode mt_X7_nearest.2.1 16 = .ok (.if_icmp .ge 43, 3) from ds_dec (i := (16, .if_icmp .ge 43, 3, 0, 0, 0, .int 0)) ok_X7_nearest 9 rfl) (t := 59) (by decide) (fun hc => ?_) (fun hc => ?_)
    · replace h := h.1 hc
      refine ds_blk (ls2 := [some (.ref a0), some (.ref 1), some (.int v2), some (.int v3), some (.int v4), some (.int v5)]) (st2 := [.int v3]) (σ2 := σ) ok_X7_nearest 32 1 59 60 [] rfl rfl rfl rfl trivial ?_
      exact ds_iret (show decode mt_X7_nearest.2.1 60 = .ok (.ireturn, 1) from ds_dec (i := (60, .ireturn, 1, 0, 0, 0, .int 0)) ok_X7_nearest 33 rfl) rfl h
    · replace h := h.2 hc
      obtain ⟨o1, o2, o3, h⟩ := h
      refine ds_blk (ls2 := [some (.ref a0), some (.ref 1), some (.int v2), some (.int v3), some (.int v4), some (.int v5)]) (st2 := [.int v4, .int (σ.1 (Yc.2.2.2 a0 0) v5.toNatClampNeg)]) (σ2 := σ) ok_X7_nearest 10 5 19 28 [ds_k Yc a0 7, ds_k Yc (Yc.2.2.2 a0 0) 10, vp_in v5 (Yc.2.2.1 (Yc.2.2.2 a0 0))] rfl rfl rfl rfl ⟨o1, o2, o3, trivial⟩ ?_
      refine ds_ic_ge (show decode mt_X7_nearest.2.1 28 = .ok (.if_icmp .ge 25, 3) from ds_dec (i := (28, .if_icmp .ge 25, 3, 0, 0, 0, .int 0)) ok_X7_nearest 15 rfl) (t := 53) (by decide) (fun hc => ?_) (fun hc => ?_)
      · replace h := h.1 hc
        refine ds_blk (ls2 := [some (.ref a0), some (.ref 1), some (.int v2), some (.int v3), some (.int v4), some (.int (v5 + (1 : Int32)))]) (st2 := []) (σ2 := σ) ok_X7_nearest 30 1 53 56 [] rfl rfl rfl rfl trivial ?_
        refine ds_goto (show decode mt_X7_nearest.2.1 56 = .ok (.goto (-46), 3) from ds_dec (i := (56, .goto (-46), 3, 0, 0, 0, .int 0)) ok_X7_nearest 31 rfl) (t := 10) (by decide) ?_
        exact ih a0 v2 v3 v4 (v5 + (1 : Int32)) σ Q h
      · replace h := h.2 hc
        refine ds_blk (ls2 := [some (.ref a0), some (.ref 1), some (.int v2), some (.int v3), some (.int v4), some (.int v5)]) (st2 := [.int (1 : Int32), .int ((v2 >>> (v5 &&& 31)) &&& (1 : Int32))]) (σ2 := σ) ok_X7_nearest 16 6 31 38 [] rfl rfl rfl rfl trivial ?_
        refine ds_ic_ne (show decode mt_X7_nearest.2.1 38 = .ok (.if_icmp .ne 15, 3) from ds_dec (i := (38, .if_icmp .ne 15, 3, 0, 0, 0, .int 0)) ok_X7_nearest 22 rfl) (t := 53) (by decide) (fun hc => ?_) (fun hc => ?_)
        · replace h := h.1 hc
          refine ds_blk (ls2 := [some (.ref a0), some (.ref 1), some (.int v2), some (.int v3), some (.int v4), some (.int (v5 + (1 : Int32)))]) (st2 := []) (σ2 := σ) ok_X7_nearest 30 1 53 56 [] rfl rfl rfl rfl trivial ?_
          refine ds_goto (show decode mt_X7_nearest.2.1 56 = .ok (.goto (-46), 3) from ds_dec (i := (56, .goto (-46), 3, 0, 0, 0, .int 0)) ok_X7_nearest 31 rfl) (t := 10) (by decide) ?_
          exact ih a0 v2 v3 v4 (v5 + (1 : Int32)) σ Q h
        · replace h := h.2 hc
          obtain ⟨o4, o5, o6, h⟩ := h
          refine ds_blk (ls2 := [some (.ref a0), some (.ref 1), some (.int v2), some (.int v5), some (.int (σ.1 (Yc.2.2.2 a0 0) v5.toNatClampNeg)), some (.int (v5 + (1 : Int32)))]) (st2 := []) (σ2 := σ) ok_X7_nearest 23 8 41 56 [ds_k Yc a0 7, ds_k Yc (Yc.2.2.2 a0 0) 10, vp_in v5 (Yc.2.2.1 (Yc.2.2.2 a0 0))] rfl rfl rfl rfl ⟨o4, o5, o6, trivial⟩ ?_
          refine ds_goto (show decode mt_X7_nearest.2.1 56 = .ok (.goto (-46), 3) from ds_dec (i := (56, .goto (-46), 3, 0, 0, 0, .int 0)) ok_X7_nearest 31 rfl) (t := 10) (by decide) ?_
          exact ih a0 v2 v5 (σ.1 (Yc.2.2.2 a0 0) v5.toNatClampNeg) (v5 + (1 : Int32)) σ Q h
def w_X7_nearest (a0 : Nat) (a2 : Int32) (σ : ds_S) (Q : Option Value → ds_S → Prop) : Prop := ∃ n, w_X7_nearest_10 n a0 a2 (-1 : Int32) (1000 : Int32) (0 : Int32) σ Q
theorem e_X7_nearest (a0 : Nat) (a2 : Int32) (σ : ds_S) (Q : Option Value → ds_S → Prop) (h : w_X7_nearest a0 a2 σ Q) : ds_E mt_X7_nearest Yc [.ref a0, .ref 1, .int a2] σ Q := by
  refine ds_enter (by decide) (Nat.le_of_ble_eq_true rfl) ?_
  show ds_X mt_X7_nearest Yc 0 [some (.ref a0), some (.ref 1), some (.int a2), none, none, none] [] σ Q
  unfold w_X7_nearest at h
  refine ds_blk (ls2 := [some (.ref a0), some (.ref 1), some (.int a2), some (.int (-1 : Int32)), some (.int (1000 : Int32)), some (.int (0 : Int32))]) (st2 := []) (σ2 := σ) ok_X7_nearest 0 6 0 10 [] rfl rfl rfl rfl trivial ?_
  obtain ⟨n, h⟩ := h
  refine x_X7_nearest_10 n a0 a2 (-1 : Int32) (1000 : Int32) (0 : Int32) σ Q h
def w_X7_comeNearerBy_66 (a0 : Nat) (a3 : Nat) (v1 : Int32) (v4 : Int32) (v5 : Int32) (t0 : Int32) (σ : ds_S) (Q : Option Value → ds_S → Prop) (K3 : Int32 → Int32 → Int32 → ds_S → Prop) : Prop := ds_k Yc a0 7 ∧ ds_k Yc (Yc.2.2.2 a0 0) 10 ∧ vp_in v1 (Yc.2.2.1 (Yc.2.2.2 a0 0)) ∧ ds_k Yc a3 10 ∧ vp_in v5 (Yc.2.2.1 a3) ∧ ds_k Yc a0 7 ∧ ds_k Yc a0 7 ∧ ds_k Yc (Yc.2.2.2 a0 0) 10 ∧ vp_in t0 (Yc.2.2.1 (Yc.2.2.2 a0 0)) ∧ (((σ.1 (Yc.2.2.2 a0 0) t0.toNatClampNeg) ≤ ((σ.1 (Yc.2.2.2 a0 0) v1.toNatClampNeg) + (σ.1 a3 v5.toNatClampNeg)) → ds_k Yc a0 7 ∧ ds_k Yc (Yc.2.2.2 a0 0) 10 ∧ vp_in t0 (Yc.2.2.1 (Yc.2.2.2 a0 0)) ∧ ds_k Yc (Yc.2.2.2 a0 0) 10 ∧ vp_in t0 (Yc.2.2.1 (Yc.2.2.2 a0 0)) ∧ K3 v1 v4 (v5 + (1 : Int32)) (ds_wi σ (Yc.2.2.2 a0 0) t0.toNatClampNeg (σ.1 (Yc.2.2.2 a0 0) t0.toNatClampNeg))) ∧ (¬ (σ.1 (Yc.2.2.2 a0 0) t0.toNatClampNeg) ≤ ((σ.1 (Yc.2.2.2 a0 0) v1.toNatClampNeg) + (σ.1 a3 v5.toNatClampNeg)) → ds_k Yc (Yc.2.2.2 a0 0) 10 ∧ vp_in t0 (Yc.2.2.1 (Yc.2.2.2 a0 0)) ∧ K3 v1 v4 (v5 + (1 : Int32)) (ds_wi σ (Yc.2.2.2 a0 0) t0.toNatClampNeg ((σ.1 (Yc.2.2.2 a0 0) v1.toNatClampNeg) + (σ.1 a3 v5.toNatClampNeg)))))
theorem x_X7_comeNearerBy_66 (a0 : Nat) (a3 : Nat) (v1 : Int32) (v4 : Int32) (v5 : Int32) (t0 : Int32) (g6 : Option Value) (g7 : Option Value) (g8 : Option Value) (g9 : Option Value) (σ : ds_S) (Q : Option Value → ds_S → Prop) (K3 : Int32 → Int32 → Int32 → ds_S → Prop) (hK3 : ∀ (v1 : Int32) (v4 : Int32) (v5 : Int32) (g6 : Option Value) (g7 : Option Value) (g8 : Option Value) (g9 : Option Value) (σ2 : ds_S), K3 v1 v4 v5 σ2 → ds_X mt_X7_comeNearerBy Yc 3 [some (.ref a0), some (.int v1), some (.ref 1), some (.ref a3), some (.int v4), some (.int v5), g6, g7, g8, g9] [] σ2 Q) (h : w_X7_comeNearerBy_66 a0 a3 v1 v4 v5 t0 σ Q K3) : ds_X mt_X7_comeNearerBy Yc 66 [some (.ref a0), some (.int v1), some (.ref 1), some (.ref a3), some (.int v4), some (.int v5), g6, g7, g8, g9] [.int t0] σ Q := by
  unfold w_X7_comeNearerBy_66 at h
  obtain ⟨o1, o2, o3, o4, o5, o6, o7, o8, o9, h⟩ := h
  refine ds_blk (ls2 := [some (.ref a0), some (.int v1), some (.ref 1), some (.ref a3), some (.int v4), some (.int v5), g6, (ds_nl g7), some (.int t0), some (.int ((σ.1 (Yc.2.2.2 a0 0) v1.toNatClampNeg) + (σ.1 a3 v5.toNatClampNeg)))]) (st2 := [.int (σ.1 (Yc.2.2.2 a0 0) t0.toNatClampNeg), .int ((σ.1 (Yc.2.2.2 a0 0) v1.toNatClampNeg) + (σ.1 a3 v5.toNatClampNeg)), .int t0, .ref (Yc.2.2.2 a0 0)]) (σ2 := σ) ok_X7_comeNearerBy 35 18 66 96 [ds_k Yc a0 7, ds_k Yc (Yc.2.2.2 a0 0) 10, vp_in v1 (Yc.2.2.1 (Yc.2.2.2 a0 0)), ds_k Yc a3 10, vp_in v5 (Yc.2.2.1 a3), ds_k Yc a0 7, ds_k Yc a0 7, ds_k Yc (Yc.2.2.2 a0 0) 10, vp_in t0 (Yc.2.2.1 (Yc.2.2.2 a0 0))] rfl rfl rfl rfl ⟨o1, o2, o3, o4, o5, o6, o7, o8, o9, trivial⟩ ?_
  refine ds_ic_ge (show decode mt_X7_comeNearerBy.2.1 96 = .ok (.if_icmp .ge 8, 3) from ds_dec (i := (96, .if_icmp .ge 8, 3, 0, 0, 0, .int 0)) ok_X7_comeNearerBy 53 rfl) (t := 104) (by decide) (fun hc => ?_) (fun hc => ?_)
  · replace h := h.1 hc
    obtain ⟨o10, o11, o12, o13, o14, h⟩ := h
    refine ds_blk (ls2 := [some (.ref a0), some (.int v1), some (.ref 1), some (.ref a3), some (.int v4), some (.int (v5 + (1 : Int32))), g6, (ds_nl g7), some (.int t0), some (.int ((σ.1 (Yc.2.2.2 a0 0) v1.toNatClampNeg) + (σ.1 a3 v5.toNatClampNeg)))]) (st2 := []) (σ2 := (ds_wi σ (Yc.2.2.2 a0 0) t0.toNatClampNeg (σ.1 (Yc.2.2.2 a0 0) t0.toNatClampNeg))) ok_X7_comeNearerBy 56 6 104 115 [ds_k Yc a0 7, ds_k Yc (Yc.2.2.2 a0 0) 10, vp_in t0 (Yc.2.2.1 (Yc.2.2.2 a0 0)), ds_k Yc (Yc.2.2.2 a0 0) 10, vp_in t0 (Yc.2.2.1 (Yc.2.2.2 a0 0))] rfl rfl rfl rfl ⟨o10, o11, o12, o13, o14, trivial⟩ ?_
    refine ds_goto (show decode mt_X7_comeNearerBy.2.1 115 = .ok (.goto (-112), 3) from ds_dec (i := (115, .goto (-112), 3, 0, 0, 0, .int 0)) ok_X7_comeNearerBy 62 rfl) (t := 3) (by decide) ?_
    exact hK3 v1 v4 (v5 + (1 : Int32)) _ _ _ _ (ds_wi σ (Yc.2.2.2 a0 0) t0.toNatClampNeg (σ.1 (Yc.2.2.2 a0 0) t0.toNatClampNeg)) h
  · replace h := h.2 hc
    refine ds_blk (ls2 := [some (.ref a0), some (.int v1), some (.ref 1), some (.ref a3), some (.int v4), some (.int v5), g6, (ds_nl g7), some (.int t0), some (.int ((σ.1 (Yc.2.2.2 a0 0) v1.toNatClampNeg) + (σ.1 a3 v5.toNatClampNeg)))]) (st2 := [.int ((σ.1 (Yc.2.2.2 a0 0) v1.toNatClampNeg) + (σ.1 a3 v5.toNatClampNeg)), .int t0, .ref (Yc.2.2.2 a0 0)]) (σ2 := σ) ok_X7_comeNearerBy 54 1 99 101 [] rfl rfl rfl rfl trivial ?_
    refine ds_goto (show decode mt_X7_comeNearerBy.2.1 101 = .ok (.goto 10, 3) from ds_dec (i := (101, .goto 10, 3, 0, 0, 0, .int 0)) ok_X7_comeNearerBy 55 rfl) (t := 111) (by decide) ?_
    obtain ⟨o15, o16, h⟩ := h
    refine ds_blk (ls2 := [some (.ref a0), some (.int v1), some (.ref 1), some (.ref a3), some (.int v4), some (.int (v5 + (1 : Int32))), g6, (ds_nl g7), some (.int t0), some (.int ((σ.1 (Yc.2.2.2 a0 0) v1.toNatClampNeg) + (σ.1 a3 v5.toNatClampNeg)))]) (st2 := []) (σ2 := (ds_wi σ (Yc.2.2.2 a0 0) t0.toNatClampNeg ((σ.1 (Yc.2.2.2 a0 0) v1.toNatClampNeg) + (σ.1 a3 v5.toNatClampNeg)))) ok_X7_comeNearerBy 60 2 111 115 [ds_k Yc (Yc.2.2.2 a0 0) 10, vp_in t0 (Yc.2.2.1 (Yc.2.2.2 a0 0))] rfl rfl rfl rfl ⟨o15, o16, trivial⟩ ?_
    refine ds_goto (show decode mt_X7_comeNearerBy.2.1 115 = .ok (.goto (-112), 3) from ds_dec (i := (115, .goto (-112), 3, 0, 0, 0, .int 0)) ok_X7_comeNearerBy 62 rfl) (t := 3) (by decide) ?_
    exact hK3 v1 v4 (v5 + (1 : Int32)) _ _ _ _ (ds_wi σ (Yc.2.2.2 a0 0) t0.toNatClampNeg ((σ.1 (Yc.2.2.2 a0 0) v1.toNatClampNeg) + (σ.1 a3 v5.toNatClampNeg))) h
def w_X7_comeNearerBy_42 (a0 : Nat) (a3 : Nat) (v1 : Int32) (v4 : Int32) (v5 : Int32) (v6 : Int32) (v7 : Int32) (σ : ds_S) (Q : Option Value → ds_S → Prop) (K3 : Int32 → Int32 → Int32 → ds_S → Prop) : Prop := ((¬ ((v4 >>> (v5 &&& 31)) &&& (1 : Int32)) = (1 : Int32) → K3 v1 v4 (v5 + (1 : Int32)) σ) ∧ (((v4 >>> (v5 &&& 31)) &&& (1 : Int32)) = (1 : Int32) → ((¬ v6 = v1 → w_X7_comeNearerBy_66 a0 a3 v1 v4 v5 v6 σ Q K3) ∧ (v6 = v1 → w_X7_comeNearerBy_66 a0 a3 v1 v4 v5 v7 σ Q K3))))
theorem x_X7_comeNearerBy_42 (a0 : Nat) (a3 : Nat) (v1 : Int32) (v4 : Int32) (v5 : Int32) (v6 : Int32) (v7 : Int32) (g8 : Option Value) (g9 : Option Value) (σ : ds_S) (Q : Option Value → ds_S → Prop) (K3 : Int32 → Int32 → Int32 → ds_S → Prop) (hK3 : ∀ (v1 : Int32) (v4 : Int32) (v5 : Int32) (g6 : Option Value) (g7 : Option Value) (g8 : Option Value) (g9 : Option Value) (σ2 : ds_S), K3 v1 v4 v5 σ2 → ds_X mt_X7_comeNearerBy Yc 3 [some (.ref a0), some (.int v1), some (.ref 1), some (.ref a3), some (.int v4), some (.int v5), g6, g7, g8, g9] [] σ2 Q) (h : w_X7_comeNearerBy_42 a0 a3 v1 v4 v5 v6 v7 σ Q K3) : ds_X mt_X7_comeNearerBy Yc 42 [some (.ref a0), some (.int v1), some (.ref 1), some (.ref a3), some (.int v4), some (.int v5), some (.int v6), some (.int v7), g8, g9] [] σ Q := by
  unfold w_X7_comeNearerBy_42 at h
  refine ds_blk (ls2 := [some (.ref a0), some (.int v1), some (.ref 1), some (.ref a3), some (.int v4), some (.int v5), some (.int v6), some (.int v7), g8, g9]) (st2 := [.int (1 : Int32), .int ((v4 >>> (v5 &&& 31)) &&& (1 : Int32))]) (σ2 := σ) ok_X7_comeNearerBy 22 6 42 50 [] rfl rfl rfl rfl trivial ?_
  refine ds_ic_ne (show decode mt_X7_comeNearerBy.2.1 50 = .ok (.if_icmp .ne 62, 3) from ds_dec (i := (50, .if_icmp .ne 62, 3, 0, 0, 0, .int 0)) ok_X7_comeNearerBy 28 rfl) (t := 112) (by decide) (fun hc => ?_) (fun hc => ?_)
  · replace h := h.1 hc
    refine ds_blk (ls2 := [some (.ref a0), some (.int v1), some (.ref 1), some (.ref a3), some (.int v4), some (.int (v5 + (1 : Int32))), some (.int v6), some (.int v7), g8, g9]) (st2 := []) (σ2 := σ) ok_X7_comeNearerBy 61 1 112 115 [] rfl rfl rfl rfl trivial ?_
    refine ds_goto (show decode mt_X7_comeNearerBy.2.1 115 = .ok (.goto (-112), 3) from ds_dec (i := (115, .goto (-112), 3, 0, 0, 0, .int 0)) ok_X7_comeNearerBy 62 rfl) (t := 3) (by decide) ?_
    exact hK3 v1 v4 (v5 + (1 : Int32)) _ _ _ _ σ h
  · replace h := h.2 hc
    refine ds_blk (ls2 := [some (.ref a0), some (.int v1), some (.ref 1), some (.ref a3), some (.int v4), some (.int v5), some (.int v6), some (.int v7), g8, g9]) (st2 := [.int v1, .int v6]) (σ2 := σ) ok_X7_comeNearerBy 29 2 53 56 [] rfl rfl rfl rfl trivial ?_
    refine ds_ic_ne (show decode mt_X7_comeNearerBy.2.1 56 = .ok (.if_icmp .ne 8, 3) from ds_dec (i := (56, .if_icmp .ne 8, 3, 0, 0, 0, .int 0)) ok_X7_comeNearerBy 31 rfl) (t := 64) (by decide) (fun hc => ?_) (fun hc => ?_)
    · replace h := h.1 hc
      refine ds_blk (ls2 := [some (.ref a0), some (.int v1), some (.ref 1), some (.ref a3), some (.int v4), some (.int v5), some (.int v6), some (.int v7), g8, g9]) (st2 := [.int v6]) (σ2 := σ) ok_X7_comeNearerBy 34 1 64 66 [] rfl rfl rfl rfl trivial ?_
      refine x_X7_comeNearerBy_66 a0 a3 v1 v4 v5 v6 _ _ _ _ σ Q K3 hK3 h
    · replace h := h.2 hc
      refine ds_blk (ls2 := [some (.ref a0), some (.int v1), some (.ref 1), some (.ref a3), some (.int v4), some (.int v5), some (.int v6), some (.int v7), g8, g9]) (st2 := [.int v7]) (σ2 := σ) ok_X7_comeNearerBy 32 1 59 61 [] rfl rfl rfl rfl trivial ?_
      refine ds_goto (show decode mt_X7_comeNearerBy.2.1 61 = .ok (.goto 5, 3) from ds_dec (i := (61, .goto 5, 3, 0, 0, 0, .int 0)) ok_X7_comeNearerBy 33 rfl) (t := 66) (by decide) ?_
      refine x_X7_comeNearerBy_66 a0 a3 v1 v4 v5 v7 _ _ _ _ σ Q K3 hK3 h
def w_X7_comeNearerBy_3 : Nat → (a0 : Nat) → (a3 : Nat) → (v1 : Int32) → (v4 : Int32) → (v5 : Int32) → (σ : ds_S) → (Q : Option Value → ds_S → Prop) → Prop
  | 0, _, _, _, _, _, _, _ => False
  | f + 1, a0, a3, v1, v4, v5, σ, Q => (((σ.1 1 1) ≤ v5 → Q none σ) ∧ (¬ (σ.1 1 1) ≤ v5 → vp_in v5 10 ∧ vp_in v5 10 ∧ (((σ.1 61 v5.toNatClampNeg) = v1 → w_X7_comeNearerBy_42 a0 a3 v1 v4 v5 (σ.1 61 v5.toNatClampNeg) (σ.1 62 v5.toNatClampNeg) σ Q (fun v1_1 v4_1 v5_1 σ1 => w_X7_comeNearerBy_3 f a0 a3 v1_1 v4_1 v5_1 σ1 Q)) ∧ (¬ (σ.1 61 v5.toNatClampNeg) = v1 → ((¬ (σ.1 62 v5.toNatClampNeg) = v1 → w_X7_comeNearerBy_3 f a0 a3 v1 v4 (v5 + (1 : Int32)) σ Q) ∧ ((σ.1 62 v5.toNatClampNeg) = v1 → w_X7_comeNearerBy_42 a0 a3 v1 v4 v5 (σ.1 61 v5.toNatClampNeg) (σ.1 62 v5.toNatClampNeg) σ Q (fun v1_2 v4_2 v5_2 σ2 => w_X7_comeNearerBy_3 f a0 a3 v1_2 v4_2 v5_2 σ2 Q)))))))
theorem x_X7_comeNearerBy_3 : ∀ (f : Nat) (a0 : Nat) (a3 : Nat) (v1 : Int32) (v4 : Int32) (v5 : Int32) (g6 : Option Value) (g7 : Option Value) (g8 : Option Value) (g9 : Option Value) (σ : ds_S) (Q : Option Value → ds_S → Prop), w_X7_comeNearerBy_3 f a0 a3 v1 v4 v5 σ Q → ds_X mt_X7_comeNearerBy Yc 3 [some (.ref a0), some (.int v1), some (.ref 1), some (.ref a3), some (.int v4), some (.int v5), g6, g7, g8, g9] [] σ Q := by
  intro f
  induction f with
  | zero => intro a0 a3 v1 v4 v5 g6 g7 g8 g9 σ Q h; exact False.elim h
  | succ f ih =>
    intro a0 a3 v1 v4 v5 g6 g7 g8 g9 σ Q h
    rw [w_X7_comeNearerBy_3] at h
    refine ds_blk (ls2 := [some (.ref a0), some (.int v1), some (.ref 1), some (.ref a3), some (.int v4), some (.int v5), g6, g7, g8, g9]) (st2 := [.int (σ.1 1 1), .int v5]) (σ2 := σ) ok_X7_comeNearerBy 2 3 3 9 [ds_k Yc 1 1] rfl rfl rfl rfl ⟨⟨by decide, rfl⟩, trivial⟩ ?_
    refine ds_ic_ge (show decode mt_X7_comeNearerBy.2.1 9 = .ok (.if_icmp .ge 109, 3) from ds_dec (i := (9, .if_icmp .ge 109, 3, 0, 0, 0, .int 0)) ok_X7_comeNearerBy 5 rfl) (t := 118) (by decide) (fun hc => ?_) (fun hc => ?_)
    · replace h := h.1 hc
      exact ds_vret (show decode mt_X7_comeNearerBy.2.1 118 = .ok (.return_, 1) from ds_dec (i := (118, .return_, 1, 0, 0, 0, .int 0)) ok_X7_comeNearerBy 63 rfl) rfl h
    · replace h := h.2 hc
      obtain ⟨o1, o2, h⟩ := h
      refine ds_blk (ls2 := [some (.ref a0), some (.int v1), some (.ref 1), some (.ref a3), some (.int v4), some (.int v5), some (.int (σ.1 61 v5.toNatClampNeg)), some (.int (σ.1 62 v5.toNatClampNeg)), g8, g9]) (st2 := [.int v1, .int (σ.1 61 v5.toNatClampNeg)]) (σ2 := σ) ok_X7_comeNearerBy 6 12 12 33 [ds_k Yc 1 1, ds_k Yc 61 10, vp_in v5 10, ds_k Yc 1 1, ds_k Yc 62 10, vp_in v5 10] rfl rfl rfl rfl ⟨⟨by decide, rfl⟩, ⟨by decide, rfl⟩, o1, ⟨by decide, rfl⟩, ⟨by decide, rfl⟩, o2, trivial⟩ ?_
      refine ds_ic_eq (show decode mt_X7_comeNearerBy.2.1 33 = .ok (.if_icmp .eq 9, 3) from ds_dec (i := (33, .if_icmp .eq 9, 3, 0, 0, 0, .int 0)) ok_X7_comeNearerBy 18 rfl) (t := 42) (by decide) (fun hc => ?_) (fun hc => ?_)
      · replace h := h.1 hc
        refine x_X7_comeNearerBy_42 a0 a3 v1 v4 v5 (σ.1 61 v5.toNatClampNeg) (σ.1 62 v5.toNatClampNeg) _ _ σ Q _ ?_ h
        · intro v1_1 v4_1 v5_1 g6_1 g7_1 g8_1 g9_1 σ1 h
          exact ih a0 a3 v1_1 v4_1 v5_1 _ _ _ _ σ1 Q h
      · replace h := h.2 hc
        refine ds_blk (ls2 := [some (.ref a0), some (.int v1), some (.ref 1), some (.ref a3), some (.int v4), some (.int v5), some (.int (σ.1 61 v5.toNatClampNeg)), some (.int (σ.1 62 v5.toNatClampNeg)), g8, g9]) (st2 := [.int v1, .int (σ.1 62 v5.toNatClampNeg)]) (σ2 := σ) ok_X7_comeNearerBy 19 2 36 39 [] rfl rfl rfl rfl trivial ?_
        refine ds_ic_ne (show decode mt_X7_comeNearerBy.2.1 39 = .ok (.if_icmp .ne 73, 3) from ds_dec (i := (39, .if_icmp .ne 73, 3, 0, 0, 0, .int 0)) ok_X7_comeNearerBy 21 rfl) (t := 112) (by decide) (fun hc => ?_) (fun hc => ?_)
        · replace h := h.1 hc
          refine ds_blk (ls2 := [some (.ref a0), some (.int v1), some (.ref 1), some (.ref a3), some (.int v4), some (.int (v5 + (1 : Int32))), some (.int (σ.1 61 v5.toNatClampNeg)), some (.int (σ.1 62 v5.toNatClampNeg)), g8, g9]) (st2 := []) (σ2 := σ) ok_X7_comeNearerBy 61 1 112 115 [] rfl rfl rfl rfl trivial ?_
          refine ds_goto (show decode mt_X7_comeNearerBy.2.1 115 = .ok (.goto (-112), 3) from ds_dec (i := (115, .goto (-112), 3, 0, 0, 0, .int 0)) ok_X7_comeNearerBy 62 rfl) (t := 3) (by decide) ?_
          exact ih a0 a3 v1 v4 (v5 + (1 : Int32)) _ _ _ _ σ Q h
        · replace h := h.2 hc
          refine x_X7_comeNearerBy_42 a0 a3 v1 v4 v5 (σ.1 61 v5.toNatClampNeg) (σ.1 62 v5.toNatClampNeg) _ _ σ Q _ ?_ h
          · intro v1_2 v4_2 v5_2 g6_2 g7_2 g8_2 g9_2 σ2 h
            exact ih a0 a3 v1_2 v4_2 v5_2 _ _ _ _ σ2 Q h
def w_X7_comeNearerBy (a0 : Nat) (a1 : Int32) (a3 : Nat) (a4 : Int32) (σ : ds_S) (Q : Option Value → ds_S → Prop) : Prop := ∃ n, w_X7_comeNearerBy_3 n a0 a3 a1 a4 (0 : Int32) σ Q
theorem e_X7_comeNearerBy (a0 : Nat) (a1 : Int32) (a3 : Nat) (a4 : Int32) (σ : ds_S) (Q : Option Value → ds_S → Prop) (h : w_X7_comeNearerBy a0 a1 a3 a4 σ Q) : ds_E mt_X7_comeNearerBy Yc [.ref a0, .int a1, .ref 1, .ref a3, .int a4] σ Q := by
  refine ds_enter (by decide) (Nat.le_of_ble_eq_true rfl) ?_
  show ds_X mt_X7_comeNearerBy Yc 0 [some (.ref a0), some (.int a1), some (.ref 1), some (.ref a3), some (.int a4), none, none, none, none, none] [] σ Q
  unfold w_X7_comeNearerBy at h
  refine ds_blk (ls2 := [some (.ref a0), some (.int a1), some (.ref 1), some (.ref a3), some (.int a4), some (.int (0 : Int32)), none, none, none, none]) (st2 := []) (σ2 := σ) ok_X7_comeNearerBy 0 2 0 3 [] rfl rfl rfl rfl trivial ?_
  obtain ⟨n, h⟩ := h
  refine x_X7_comeNearerBy_3 n a0 a3 a1 a4 (0 : Int32) _ _ _ _ σ Q h
def w_X7_findNext_141 (a0 : Nat) (a2 : Nat) (v3 : Int32) (v4 : Int32) (t0 : Int32) (t1 : Int32) (t2 : Nat) (σ : ds_S) (Q : Option Value → ds_S → Prop) (K11 : Int32 → Int32 → ds_S → Prop) : Prop := ds_k Yc t2 10 ∧ vp_in t1 (Yc.2.2.1 t2) ∧ ds_k Yc a0 7 ∧ ds_k Yc a0 7 ∧ ds_k Yc (Yc.2.2.2 a0 4) 10 ∧ vp_in v4 (Yc.2.2.1 (Yc.2.2.2 a0 4)) ∧ ds_k Yc (Yc.2.2.2 a0 3) 10 ∧ vp_in ((ds_wi σ t2 t1.toNatClampNeg t0).1 (Yc.2.2.2 a0 4) v4.toNatClampNeg) (Yc.2.2.1 (Yc.2.2.2 a0 3)) ∧ ds_k Yc (Yc.2.2.2 a0 3) 10 ∧ vp_in ((ds_wi σ t2 t1.toNatClampNeg t0).1 (Yc.2.2.2 a0 4) v4.toNatClampNeg) (Yc.2.2.1 (Yc.2.2.2 a0 3)) ∧ K11 v3 (v4 + (1 : Int32)) (ds_wi (ds_wi σ t2 t1.toNatClampNeg t0) (Yc.2.2.2 a0 3) (((ds_wi σ t2 t1.toNatClampNeg t0).1 (Yc.2.2.2 a0 4) v4.toNatClampNeg).toNatClampNeg) (((ds_wi σ t2 t1.toNatClampNeg t0).1 (Yc.2.2.2 a0 3) (((ds_wi σ t2 t1.toNatClampNeg t0).1 (Yc.2.2.2 a0 4) v4.toNatClampNeg).toNatClampNeg)) + (1 : Int32)))
theorem x_X7_findNext_141 (a0 : Nat) (a2 : Nat) (v3 : Int32) (v4 : Int32) (t0 : Int32) (t1 : Int32) (t2 : Nat) (g5 : Option Value) (g6 : Option Value) (g7 : Option Value) (g8 : Option Value) (σ : ds_S) (Q : Option Value → ds_S → Prop) (K11 : Int32 → Int32 → ds_S → Prop) (hK11 : ∀ (v3 : Int32) (v4 : Int32) (g5 : Option Value) (g6 : Option Value) (g7 : Option Value) (g8 : Option Value) (σ2 : ds_S), K11 v3 v4 σ2 → ds_X mt_X7_findNext Yc 11 [some (.ref a0), some (.ref 1), some (.ref a2), some (.int v3), some (.int v4), g5, g6, g7, g8] [] σ2 Q) (h : w_X7_findNext_141 a0 a2 v3 v4 t0 t1 t2 σ Q K11) : ds_X mt_X7_findNext Yc 141 [some (.ref a0), some (.ref 1), some (.ref a2), some (.int v3), some (.int v4), g5, g6, g7, g8] [.int t0, .int t1, .ref t2] σ Q := by
  unfold w_X7_findNext_141 at h
  obtain ⟨o1, o2, o3, o4, o5, o6, o7, o8, o9, o10, h⟩ := h
  refine ds_blk (ls2 := [some (.ref a0), some (.ref 1), some (.ref a2), some (.int v3), some (.int (v4 + (1 : Int32))), g5, g6, g7, g8]) (st2 := []) (σ2 := (ds_wi (ds_wi σ t2 t1.toNatClampNeg t0) (Yc.2.2.2 a0 3) (((ds_wi σ t2 t1.toNatClampNeg t0).1 (Yc.2.2.2 a0 4) v4.toNatClampNeg).toNatClampNeg) (((ds_wi σ t2 t1.toNatClampNeg t0).1 (Yc.2.2.2 a0 3) (((ds_wi σ t2 t1.toNatClampNeg t0).1 (Yc.2.2.2 a0 4) v4.toNatClampNeg).toNatClampNeg)) + (1 : Int32)))) ok_X7_findNext 76 13 141 161 [ds_k Yc t2 10, vp_in t1 (Yc.2.2.1 t2), ds_k Yc a0 7, ds_k Yc a0 7, ds_k Yc (Yc.2.2.2 a0 4) 10, vp_in v4 (Yc.2.2.1 (Yc.2.2.2 a0 4)), ds_k Yc (Yc.2.2.2 a0 3) 10, vp_in ((ds_wi σ t2 t1.toNatClampNeg t0).1 (Yc.2.2.2 a0 4) v4.toNatClampNeg) (Yc.2.2.1 (Yc.2.2.2 a0 3)), ds_k Yc (Yc.2.2.2 a0 3) 10, vp_in ((ds_wi σ t2 t1.toNatClampNeg t0).1 (Yc.2.2.2 a0 4) v4.toNatClampNeg) (Yc.2.2.1 (Yc.2.2.2 a0 3))] rfl rfl rfl rfl ⟨o1, o2, o3, o4, o5, o6, o7, o8, o9, o10, trivial⟩ ?_
  refine ds_goto (show decode mt_X7_findNext.2.1 161 = .ok (.goto (-150), 3) from ds_dec (i := (161, .goto (-150), 3, 0, 0, 0, .int 0)) ok_X7_findNext 89 rfl) (t := 11) (by decide) ?_
  exact hK11 v3 (v4 + (1 : Int32)) _ _ _ _ (ds_wi (ds_wi σ t2 t1.toNatClampNeg t0) (Yc.2.2.2 a0 3) (((ds_wi σ t2 t1.toNatClampNeg t0).1 (Yc.2.2.2 a0 4) v4.toNatClampNeg).toNatClampNeg) (((ds_wi σ t2 t1.toNatClampNeg t0).1 (Yc.2.2.2 a0 3) (((ds_wi σ t2 t1.toNatClampNeg t0).1 (Yc.2.2.2 a0 4) v4.toNatClampNeg).toNatClampNeg)) + (1 : Int32))) h
def w_X7_findNext_122 (a0 : Nat) (a2 : Nat) (v3 : Int32) (v4 : Int32) (v5 : Int32) (v6 : Int32) (v7 : Int32) (t0 : Int32) (t1 : Int32) (t2 : Nat) (σ : ds_S) (Q : Option Value → ds_S → Prop) (K11 : Int32 → Int32 → ds_S → Prop) : Prop := ds_k Yc t2 10 ∧ vp_in t1 (Yc.2.2.1 t2) ∧ ds_k Yc a0 7 ∧ ((v7 ≤ 0 → w_X7_findNext_141 a0 a2 v3 v4 v5 v4 (Yc.2.2.2 a0 5) (ds_wi σ t2 t1.toNatClampNeg t0) Q K11) ∧ (¬ v7 ≤ 0 → w_X7_findNext_141 a0 a2 v3 v4 v6 v4 (Yc.2.2.2 a0 5) (ds_wi σ t2 t1.toNatClampNeg t0) Q K11))
theorem x_X7_findNext_122 (a0 : Nat) (a2 : Nat) (v3 : Int32) (v4 : Int32) (v5 : Int32) (v6 : Int32) (v7 : Int32) (t0 : Int32) (t1 : Int32) (t2 : Nat) (g8 : Option Value) (σ : ds_S) (Q : Option Value → ds_S → Prop) (K11 : Int32 → Int32 → ds_S → Prop) (hK11 : ∀ (v3 : Int32) (v4 : Int32) (g5 : Option Value) (g6 : Option Value) (g7 : Option Value) (g8 : Option Value) (σ2 : ds_S), K11 v3 v4 σ2 → ds_X mt_X7_findNext Yc 11 [some (.ref a0), some (.ref 1), some (.ref a2), some (.int v3), some (.int v4), g5, g6, g7, g8] [] σ2 Q) (h : w_X7_findNext_122 a0 a2 v3 v4 v5 v6 v7 t0 t1 t2 σ Q K11) : ds_X mt_X7_findNext Yc 122 [some (.ref a0), some (.ref 1), some (.ref a2), some (.int v3), some (.int v4), some (.int v5), some (.int v6), some (.int v7), g8] [.int t0, .int t1, .ref t2] σ Q := by
  unfold w_X7_findNext_122 at h
  obtain ⟨o1, o2, o3, h⟩ := h
  refine ds_blk (ls2 := [some (.ref a0), some (.ref 1), some (.ref a2), some (.int v3), some (.int v4), some (.int v5), some (.int v6), some (.int v7), g8]) (st2 := [.int v7, .int v4, .ref (Yc.2.2.2 a0 5)]) (σ2 := (ds_wi σ t2 t1.toNatClampNeg t0)) ok_X7_findNext 67 5 122 131 [ds_k Yc t2 10, vp_in t1 (Yc.2.2.1 t2), ds_k Yc a0 7] rfl rfl rfl rfl ⟨o1, o2, o3, trivial⟩ ?_
  refine ds_if_le (show decode mt_X7_findNext.2.1 131 = .ok (.ifCond .le 8, 3) from ds_dec (i := (131, .ifCond .le 8, 3, 0, 0, 0, .int 0)) ok_X7_findNext 72 rfl) (t := 139) (by decide) (fun hc => ?_) (fun hc => ?_)
  · replace h := h.1 hc
    refine ds_blk (ls2 := [some (.ref a0), some (.ref 1), some (.ref a2), some (.int v3), some (.int v4), some (.int v5), some (.int v6), some (.int v7), g8]) (st2 := [.int v5, .int v4, .ref (Yc.2.2.2 a0 5)]) (σ2 := (ds_wi σ t2 t1.toNatClampNeg t0)) ok_X7_findNext 75 1 139 141 [] rfl rfl rfl rfl trivial ?_
    refine x_X7_findNext_141 a0 a2 v3 v4 v5 v4 (Yc.2.2.2 a0 5) _ _ _ _ (ds_wi σ t2 t1.toNatClampNeg t0) Q K11 hK11 h
  · replace h := h.2 hc
    refine ds_blk (ls2 := [some (.ref a0), some (.ref 1), some (.ref a2), some (.int v3), some (.int v4), some (.int v5), some (.int v6), some (.int v7), g8]) (st2 := [.int v6, .int v4, .ref (Yc.2.2.2 a0 5)]) (σ2 := (ds_wi σ t2 t1.toNatClampNeg t0)) ok_X7_findNext 73 1 134 136 [] rfl rfl rfl rfl trivial ?_
    refine ds_goto (show decode mt_X7_findNext.2.1 136 = .ok (.goto 5, 3) from ds_dec (i := (136, .goto 5, 3, 0, 0, 0, .int 0)) ok_X7_findNext 74 rfl) (t := 141) (by decide) ?_
    refine x_X7_findNext_141 a0 a2 v3 v4 v6 v4 (Yc.2.2.2 a0 5) _ _ _ _ (ds_wi σ t2 t1.toNatClampNeg t0) Q K11 hK11 h
def w_X7_findNext_89 (a0 : Nat) (a2 : Nat) (v3 : Int32) (v4 : Int32) (v5 : Int32) (v6 : Int32) (v7 : Int32) (t0 : Int32) (σ : ds_S) (Q : Option Value → ds_S → Prop) (K11 : Int32 → Int32 → ds_S → Prop) : Prop := ds_k Yc a0 7 ∧ ds_k Yc (Yc.2.2.2 a0 4) 10 ∧ vp_in v4 (Yc.2.2.1 (Yc.2.2.2 a0 4)) ∧ ((t0 = 0 → K11 v3 (v4 + (1 : Int32)) (ds_wi σ (Yc.2.2.2 a0 4) v4.toNatClampNeg (-1 : Int32))) ∧ (¬ t0 = 0 → ds_k Yc a0 7 ∧ ((v7 ≤ 0 → w_X7_findNext_122 a0 a2 v3 v4 v5 v6 v7 v6 v4 (Yc.2.2.2 a0 4) (ds_wi σ (Yc.2.2.2 a0 4) v4.toNatClampNeg (-1 : Int32)) Q K11) ∧ (¬ v7 ≤ 0 → w_X7_findNext_122 a0 a2 v3 v4 v5 v6 v7 v5 v4 (Yc.2.2.2 a0 4) (ds_wi σ (Yc.2.2.2 a0 4) v4.toNatClampNeg (-1 : Int32)) Q K11))))
theorem x_X7_findNext_89 (a0 : Nat) (a2 : Nat) (v3 : Int32) (v4 : Int32) (v5 : Int32) (v6 : Int32) (v7 : Int32) (t0 : Int32) (g8 : Option Value) (σ : ds_S) (Q : Option Value → ds_S → Prop) (K11 : Int32 → Int32 → ds_S → Prop) (hK11 : ∀ (v3 : Int32) (v4 : Int32) (g5 : Option Value) (g6 : Option Value) (g7 : Option Value) (g8 : Option Value) (σ2 : ds_S), K11 v3 v4 σ2 → ds_X mt_X7_findNext Yc 11 [some (.ref a0), some (.ref 1), some (.ref a2), some (.int v3), some (.int v4), g5, g6, g7, g8] [] σ2 Q) (h : w_X7_findNext_89 a0 a2 v3 v4 v5 v6 v7 t0 σ Q K11) : ds_X mt_X7_findNext Yc 89 [some (.ref a0), some (.ref 1), some (.ref a2), some (.int v3), some (.int v4), some (.int v5), some (.int v6), some (.int v7), g8] [.int t0] σ Q := by
  unfold w_X7_findNext_89 at h
  obtain ⟨o1, o2, o3, h⟩ := h
  refine ds_blk (ls2 := [some (.ref a0), some (.ref 1), some (.ref a2), some (.int v3), some (.int v4), some (.int v5), some (.int v6), some (.int v7), some (.int t0)]) (st2 := [.int t0]) (σ2 := (ds_wi σ (Yc.2.2.2 a0 4) v4.toNatClampNeg (-1 : Int32))) ok_X7_findNext 51 7 89 101 [ds_k Yc a0 7, ds_k Yc (Yc.2.2.2 a0 4) 10, vp_in v4 (Yc.2.2.1 (Yc.2.2.2 a0 4))] rfl rfl rfl rfl ⟨o1, o2, o3, trivial⟩ ?_
  refine ds_if_eq (show decode mt_X7_findNext.2.1 101 = .ok (.ifCond .eq 57, 3) from ds_dec (i := (101, .ifCond .eq 57, 3, 0, 0, 0, .int 0)) ok_X7_findNext 58 rfl) (t := 158) (by decide) (fun hc => ?_) (fun hc => ?_)
  · replace h := h.1 hc
    refine ds_blk (ls2 := [some (.ref a0), some (.ref 1), some (.ref a2), some (.int v3), some (.int (v4 + (1 : Int32))), some (.int v5), some (.int v6), some (.int v7), some (.int t0)]) (st2 := []) (σ2 := (ds_wi σ (Yc.2.2.2 a0 4) v4.toNatClampNeg (-1 : Int32))) ok_X7_findNext 88 1 158 161 [] rfl rfl rfl rfl trivial ?_
    refine ds_goto (show decode mt_X7_findNext.2.1 161 = .ok (.goto (-150), 3) from ds_dec (i := (161, .goto (-150), 3, 0, 0, 0, .int 0)) ok_X7_findNext 89 rfl) (t := 11) (by decide) ?_
    exact hK11 v3 (v4 + (1 : Int32)) _ _ _ _ (ds_wi σ (Yc.2.2.2 a0 4) v4.toNatClampNeg (-1 : Int32)) h
  · replace h := h.2 hc
    obtain ⟨o4, h⟩ := h
    refine ds_blk (ls2 := [some (.ref a0), some (.ref 1), some (.ref a2), some (.int v3), some (.int v4), some (.int v5), some (.int v6), some (.int v7), some (.int t0)]) (st2 := [.int v7, .int v4, .ref (Yc.2.2.2 a0 4)]) (σ2 := (ds_wi σ (Yc.2.2.2 a0 4) v4.toNatClampNeg (-1 : Int32))) ok_X7_findNext 59 4 104 112 [ds_k Yc a0 7] rfl rfl rfl rfl ⟨o4, trivial⟩ ?_
    refine ds_if_le (show decode mt_X7_findNext.2.1 112 = .ok (.ifCond .le 8, 3) from ds_dec (i := (112, .ifCond .le 8, 3, 0, 0, 0, .int 0)) ok_X7_findNext 63 rfl) (t := 120) (by decide) (fun hc => ?_) (fun hc => ?_)
    · replace h := h.1 hc
      refine ds_blk (ls2 := [some (.ref a0), some (.ref 1), some (.ref a2), some (.int v3), some (.int v4), some (.int v5), some (.int v6), some (.int v7), some (.int t0)]) (st2 := [.int v6, .int v4, .ref (Yc.2.2.2 a0 4)]) (σ2 := (ds_wi σ (Yc.2.2.2 a0 4) v4.toNatClampNeg (-1 : Int32))) ok_X7_findNext 66 1 120 122 [] rfl rfl rfl rfl trivial ?_
      refine x_X7_findNext_122 a0 a2 v3 v4 v5 v6 v7 v6 v4 (Yc.2.2.2 a0 4) _ (ds_wi σ (Yc.2.2.2 a0 4) v4.toNatClampNeg (-1 : Int32)) Q K11 hK11 h
    · replace h := h.2 hc
      refine ds_blk (ls2 := [some (.ref a0), some (.ref 1), some (.ref a2), some (.int v3), some (.int v4), some (.int v5), some (.int v6), some (.int v7), some (.int t0)]) (st2 := [.int v5, .int v4, .ref (Yc.2.2.2 a0 4)]) (σ2 := (ds_wi σ (Yc.2.2.2 a0 4) v4.toNatClampNeg (-1 : Int32))) ok_X7_findNext 64 1 115 117 [] rfl rfl rfl rfl trivial ?_
      refine ds_goto (show decode mt_X7_findNext.2.1 117 = .ok (.goto 5, 3) from ds_dec (i := (117, .goto 5, 3, 0, 0, 0, .int 0)) ok_X7_findNext 65 rfl) (t := 122) (by decide) ?_
      refine x_X7_findNext_122 a0 a2 v3 v4 v5 v6 v7 v5 v4 (Yc.2.2.2 a0 4) _ (ds_wi σ (Yc.2.2.2 a0 4) v4.toNatClampNeg (-1 : Int32)) Q K11 hK11 h
def w_X7_findNext_11 : Nat → (a0 : Nat) → (a2 : Nat) → (v3 : Int32) → (v4 : Int32) → (σ : ds_S) → (Q : Option Value → ds_S → Prop) → Prop
  | 0, _, _, _, _, _, _ => False
  | f + 1, a0, a2, v3, v4, σ, Q => (((σ.1 1 1) ≤ v4 → Q none σ) ∧ (¬ (σ.1 1 1) ≤ v4 → vp_in v4 10 ∧ vp_in v4 10 ∧ ds_k Yc a0 7 ∧ ds_k Yc (Yc.2.2.2 a0 0) 10 ∧ vp_in (σ.1 61 v4.toNatClampNeg) (Yc.2.2.1 (Yc.2.2.2 a0 0)) ∧ ds_k Yc a0 7 ∧ ds_k Yc (Yc.2.2.2 a0 0) 10 ∧ vp_in (σ.1 62 v4.toNatClampNeg) (Yc.2.2.1 (Yc.2.2.2 a0 0)) ∧ ((¬ ((v3 >>> (v4 &&& 31)) &&& (1 : Int32)) = (1 : Int32) → w_X7_findNext_89 a0 a2 v3 v4 (σ.1 61 v4.toNatClampNeg) (σ.1 62 v4.toNatClampNeg) ((σ.1 (Yc.2.2.2 a0 0) ((σ.1 61 v4.toNatClampNeg).toNatClampNeg)) - (σ.1 (Yc.2.2.2 a0 0) ((σ.1 62 v4.toNatClampNeg).toNatClampNeg))) (0 : Int32) σ Q (fun v3_1 v4_1 σ1 => w_X7_findNext_11 f a0 a2 v3_1 v4_1 σ1 Q)) ∧ (((v3 >>> (v4 &&& 31)) &&& (1 : Int32)) = (1 : Int32) → ds_k Yc a2 10 ∧ vp_in v4 (Yc.2.2.1 a2) ∧ ((((σ.1 (Yc.2.2.2 a0 0) ((σ.1 61 v4.toNatClampNeg).toNatClampNeg)) - (σ.1 (Yc.2.2.2 a0 0) ((σ.1 62 v4.toNatClampNeg).toNatClampNeg))) = (σ.1 a2 v4.toNatClampNeg) → w_X7_findNext_89 a0 a2 v3 v4 (σ.1 61 v4.toNatClampNeg) (σ.1 62 v4.toNatClampNeg) ((σ.1 (Yc.2.2.2 a0 0) ((σ.1 61 v4.toNatClampNeg).toNatClampNeg)) - (σ.1 (Yc.2.2.2 a0 0) ((σ.1 62 v4.toNatClampNeg).toNatClampNeg))) (1 : Int32) σ Q (fun v3_2 v4_2 σ2 => w_X7_findNext_11 f a0 a2 v3_2 v4_2 σ2 Q)) ∧ (¬ ((σ.1 (Yc.2.2.2 a0 0) ((σ.1 61 v4.toNatClampNeg).toNatClampNeg)) - (σ.1 (Yc.2.2.2 a0 0) ((σ.1 62 v4.toNatClampNeg).toNatClampNeg))) = (σ.1 a2 v4.toNatClampNeg) → ds_k Yc a2 10 ∧ vp_in v4 (Yc.2.2.1 a2) ∧ ((¬ (-((σ.1 (Yc.2.2.2 a0 0) ((σ.1 61 v4.toNatClampNeg).toNatClampNeg)) - (σ.1 (Yc.2.2.2 a0 0) ((σ.1 62 v4.toNatClampNeg).toNatClampNeg)))) = (σ.1 a2 v4.toNatClampNeg) → w_X7_findNext_89 a0 a2 v3 v4 (σ.1 61 v4.toNatClampNeg) (σ.1 62 v4.toNatClampNeg) ((σ.1 (Yc.2.2.2 a0 0) ((σ.1 61 v4.toNatClampNeg).toNatClampNeg)) - (σ.1 (Yc.2.2.2 a0 0) ((σ.1 62 v4.toNatClampNeg).toNatClampNeg))) (0 : Int32) σ Q (fun v3_3 v4_3 σ3 => w_X7_findNext_11 f a0 a2 v3_3 v4_3 σ3 Q)) ∧ ((-((σ.1 (Yc.2.2.2 a0 0) ((σ.1 61 v4.toNatClampNeg).toNatClampNeg)) - (σ.1 (Yc.2.2.2 a0 0) ((σ.1 62 v4.toNatClampNeg).toNatClampNeg)))) = (σ.1 a2 v4.toNatClampNeg) → w_X7_findNext_89 a0 a2 v3 v4 (σ.1 61 v4.toNatClampNeg) (σ.1 62 v4.toNatClampNeg) ((σ.1 (Yc.2.2.2 a0 0) ((σ.1 61 v4.toNatClampNeg).toNatClampNeg)) - (σ.1 (Yc.2.2.2 a0 0) ((σ.1 62 v4.toNatClampNeg).toNatClampNeg))) (1 : Int32) σ Q (fun v3_4 v4_4 σ4 => w_X7_findNext_11 f a0 a2 v3_4 v4_4 σ4 Q)))))))))
theorem x_X7_findNext_11 : ∀ (f : Nat) (a0 : Nat) (a2 : Nat) (v3 : Int32) (v4 : Int32) (g5 : Option Value) (g6 : Option Value) (g7 : Option Value) (g8 : Option Value) (σ : ds_S) (Q : Option Value → ds_S → Prop), w_X7_findNext_11 f a0 a2 v3 v4 σ Q → ds_X mt_X7_findNext Yc 11 [some (.ref a0), some (.ref 1), some (.ref a2), some (.int v3), some (.int v4), g5, g6, g7, g8] [] σ Q := by
  intro f
  induction f with
  | zero => intro a0 a2 v3 v4 g5 g6 g7 g8 σ Q h; exact False.elim h
  | succ f ih =>
    intro a0 a2 v3 v4 g5 g6 g7 g8 σ Q h
    rw [w_X7_findNext_11] at h
    refine ds_blk (ls2 := [some (.ref a0), some (.ref 1), some (.ref a2), some (.int v3), some (.int v4), g5, g6, g7, g8]) (st2 := [.int (σ.1 1 1), .int v4]) (σ2 := σ) ok_X7_findNext 6 3 11 17 [ds_k Yc 1 1] rfl rfl rfl rfl ⟨⟨by decide, rfl⟩, trivial⟩ ?_
    refine ds_ic_ge (show decode mt_X7_findNext.2.1 17 = .ok (.if_icmp .ge 147, 3) from ds_dec (i := (17, .if_icmp .ge 147, 3, 0, 0, 0, .int 0)) ok_X7_findNext 9 rfl) (t := 164) (by decide) (fun hc => ?_) (fun hc => ?_)
    · replace h := h.1 hc
      exact ds_vret (show decode mt_X7_findNext.2.1 164 = .ok (.return_, 1) from ds_dec (i := (164, .return_, 1, 0, 0, 0, .int 0)) ok_X7_findNext 90 rfl) rfl h
    · replace h := h.2 hc
      obtain ⟨o1, o2, o3, o4, o5, o6, o7, o8, h⟩ := h
      refine ds_blk (ls2 := [some (.ref a0), some (.ref 1), some (.ref a2), some (.int v3), some (.int v4), some (.int (σ.1 61 v4.toNatClampNeg)), some (.int (σ.1 62 v4.toNatClampNeg)), some (.int ((σ.1 (Yc.2.2.2 a0 0) ((σ.1 61 v4.toNatClampNeg).toNatClampNeg)) - (σ.1 (Yc.2.2.2 a0 0) ((σ.1 62 v4.toNatClampNeg).toNatClampNeg)))), g8]) (st2 := [.int (1 : Int32), .int ((v3 >>> (v4 &&& 31)) &&& (1 : Int32))]) (σ2 := σ) ok_X7_findNext 10 26 20 62 [ds_k Yc 1 1, ds_k Yc 61 10, vp_in v4 10, ds_k Yc 1 1, ds_k Yc 62 10, vp_in v4 10, ds_k Yc a0 7, ds_k Yc (Yc.2.2.2 a0 0) 10, vp_in (σ.1 61 v4.toNatClampNeg) (Yc.2.2.1 (Yc.2.2.2 a0 0)), ds_k Yc a0 7, ds_k Yc (Yc.2.2.2 a0 0) 10, vp_in (σ.1 62 v4.toNatClampNeg) (Yc.2.2.1 (Yc.2.2.2 a0 0))] rfl rfl rfl rfl ⟨⟨by decide, rfl⟩, ⟨by decide, rfl⟩, o1, ⟨by decide, rfl⟩, ⟨by decide, rfl⟩, o2, o3, o4, o5, o6, o7, o8, trivial⟩ ?_
      refine ds_ic_ne (show decode mt_X7_findNext.2.1 62 = .ok (.if_icmp .ne 26, 3) from ds_dec (i := (62, .if_icmp .ne 26, 3, 0, 0, 0, .int 0)) ok_X7_findNext 36 rfl) (t := 88) (by decide) (fun hc => ?_) (fun hc => ?_)
      · replace h := h.1 hc
        refine ds_blk (ls2 := [some (.ref a0), some (.ref 1), some (.ref a2), some (.int v3), some (.int v4), some (.int (σ.1 61 v4.toNatClampNeg)), some (.int (σ.1 62 v4.toNatClampNeg)), some (.int ((σ.1 (Yc.2.2.2 a0 0) ((σ.1 61 v4.toNatClampNeg).toNatClampNeg)) - (σ.1 (Yc.2.2.2 a0 0) ((σ.1 62 v4.toNatClampNeg).toNatClampNeg)))), g8]) (st2 := [.int (0 : Int32)]) (σ2 := σ) ok_X7_findNext 50 1 88 89 [] rfl rfl rfl rfl trivial ?_
        refine x_X7_findNext_89 a0 a2 v3 v4 (σ.1 61 v4.toNatClampNeg) (σ.1 62 v4.toNatClampNeg) ((σ.1 (Yc.2.2.2 a0 0) ((σ.1 61 v4.toNatClampNeg).toNatClampNeg)) - (σ.1 (Yc.2.2.2 a0 0) ((σ.1 62 v4.toNatClampNeg).toNatClampNeg))) (0 : Int32) _ σ Q _ ?_ h
        · intro v3_1 v4_1 g5_1 g6_1 g7_1 g8_1 σ1 h
          exact ih a0 a2 v3_1 v4_1 _ _ _ _ σ1 Q h
      · replace h := h.2 hc
        obtain ⟨o9, o10, h⟩ := h
        refine ds_blk (ls2 := [some (.ref a0), some (.ref 1), some (.ref a2), some (.int v3), some (.int v4), some (.int (σ.1 61 v4.toNatClampNeg)), some (.int (σ.1 62 v4.toNatClampNeg)), some (.int ((σ.1 (Yc.2.2.2 a0 0) ((σ.1 61 v4.toNatClampNeg).toNatClampNeg)) - (σ.1 (Yc.2.2.2 a0 0) ((σ.1 62 v4.toNatClampNeg).toNatClampNeg)))), g8]) (st2 := [.int (σ.1 a2 v4.toNatClampNeg), .int ((σ.1 (Yc.2.2.2 a0 0) ((σ.1 61 v4.toNatClampNeg).toNatClampNeg)) - (σ.1 (Yc.2.2.2 a0 0) ((σ.1 62 v4.toNatClampNeg).toNatClampNeg)))]) (σ2 := σ) ok_X7_findNext 37 4 65 71 [ds_k Yc a2 10, vp_in v4 (Yc.2.2.1 a2)] rfl rfl rfl rfl ⟨o9, o10, trivial⟩ ?_
        refine ds_ic_eq (show decode mt_X7_findNext.2.1 71 = .ok (.if_icmp .eq 13, 3) from ds_dec (i := (71, .if_icmp .eq 13, 3, 0, 0, 0, .int 0)) ok_X7_findNext 41 rfl) (t := 84) (by decide) (fun hc => ?_) (fun hc => ?_)
        · replace h := h.1 hc
          refine ds_blk (ls2 := [some (.ref a0), some (.ref 1), some (.ref a2), some (.int v3), some (.int v4), some (.int (σ.1 61 v4.toNatClampNeg)), some (.int (σ.1 62 v4.toNatClampNeg)), some (.int ((σ.1 (Yc.2.2.2 a0 0) ((σ.1 61 v4.toNatClampNeg).toNatClampNeg)) - (σ.1 (Yc.2.2.2 a0 0) ((σ.1 62 v4.toNatClampNeg).toNatClampNeg)))), g8]) (st2 := [.int (1 : Int32)]) (σ2 := σ) ok_X7_findNext 48 1 84 85 [] rfl rfl rfl rfl trivial ?_
          refine ds_goto (show decode mt_X7_findNext.2.1 85 = .ok (.goto 4, 3) from ds_dec (i := (85, .goto 4, 3, 0, 0, 0, .int 0)) ok_X7_findNext 49 rfl) (t := 89) (by decide) ?_
          refine x_X7_findNext_89 a0 a2 v3 v4 (σ.1 61 v4.toNatClampNeg) (σ.1 62 v4.toNatClampNeg) ((σ.1 (Yc.2.2.2 a0 0) ((σ.1 61 v4.toNatClampNeg).toNatClampNeg)) - (σ.1 (Yc.2.2.2 a0 0) ((σ.1 62 v4.toNatClampNeg).toNatClampNeg))) (1 : Int32) _ σ Q _ ?_ h
          · intro v3_2 v4_2 g5_2 g6_2 g7_2 g8_2 σ2 h
            exact ih a0 a2 v3_2 v4_2 _ _ _ _ σ2 Q h
        · replace h := h.2 hc
          obtain ⟨o11, o12, h⟩ := h
          refine ds_blk (ls2 := [some (.ref a0), some (.ref 1), some (.ref a2), some (.int v3), some (.int v4), some (.int (σ.1 61 v4.toNatClampNeg)), some (.int (σ.1 62 v4.toNatClampNeg)), some (.int ((σ.1 (Yc.2.2.2 a0 0) ((σ.1 61 v4.toNatClampNeg).toNatClampNeg)) - (σ.1 (Yc.2.2.2 a0 0) ((σ.1 62 v4.toNatClampNeg).toNatClampNeg)))), g8]) (st2 := [.int (σ.1 a2 v4.toNatClampNeg), .int (-((σ.1 (Yc.2.2.2 a0 0) ((σ.1 61 v4.toNatClampNeg).toNatClampNeg)) - (σ.1 (Yc.2.2.2 a0 0) ((σ.1 62 v4.toNatClampNeg).toNatClampNeg))))]) (σ2 := σ) ok_X7_findNext 42 5 74 81 [ds_k Yc a2 10, vp_in v4 (Yc.2.2.1 a2)] rfl rfl rfl rfl ⟨o11, o12, trivial⟩ ?_
          refine ds_ic_ne (show decode mt_X7_findNext.2.1 81 = .ok (.if_icmp .ne 7, 3) from ds_dec (i := (81, .if_icmp .ne 7, 3, 0, 0, 0, .int 0)) ok_X7_findNext 47 rfl) (t := 88) (by decide) (fun hc => ?_) (fun hc => ?_)
          · replace h := h.1 hc
            refine ds_blk (ls2 := [some (.ref a0), some (.ref 1), some (.ref a2), some (.int v3), some (.int v4), some (.int (σ.1 61 v4.toNatClampNeg)), some (.int (σ.1 62 v4.toNatClampNeg)), some (.int ((σ.1 (Yc.2.2.2 a0 0) ((σ.1 61 v4.toNatClampNeg).toNatClampNeg)) - (σ.1 (Yc.2.2.2 a0 0) ((σ.1 62 v4.toNatClampNeg).toNatClampNeg)))), g8]) (st2 := [.int (0 : Int32)]) (σ2 := σ) ok_X7_findNext 50 1 88 89 [] rfl rfl rfl rfl trivial ?_
            refine x_X7_findNext_89 a0 a2 v3 v4 (σ.1 61 v4.toNatClampNeg) (σ.1 62 v4.toNatClampNeg) ((σ.1 (Yc.2.2.2 a0 0) ((σ.1 61 v4.toNatClampNeg).toNatClampNeg)) - (σ.1 (Yc.2.2.2 a0 0) ((σ.1 62 v4.toNatClampNeg).toNatClampNeg))) (0 : Int32) _ σ Q _ ?_ h
            · intro v3_3 v4_3 g5_3 g6_3 g7_3 g8_3 σ3 h
              exact ih a0 a2 v3_3 v4_3 _ _ _ _ σ3 Q h
          · replace h := h.2 hc
            refine ds_blk (ls2 := [some (.ref a0), some (.ref 1), some (.ref a2), some (.int v3), some (.int v4), some (.int (σ.1 61 v4.toNatClampNeg)), some (.int (σ.1 62 v4.toNatClampNeg)), some (.int ((σ.1 (Yc.2.2.2 a0 0) ((σ.1 61 v4.toNatClampNeg).toNatClampNeg)) - (σ.1 (Yc.2.2.2 a0 0) ((σ.1 62 v4.toNatClampNeg).toNatClampNeg)))), g8]) (st2 := [.int (1 : Int32)]) (σ2 := σ) ok_X7_findNext 48 1 84 85 [] rfl rfl rfl rfl trivial ?_
            refine ds_goto (show decode mt_X7_findNext.2.1 85 = .ok (.goto 4, 3) from ds_dec (i := (85, .goto 4, 3, 0, 0, 0, .int 0)) ok_X7_findNext 49 rfl) (t := 89) (by decide) ?_
            refine x_X7_findNext_89 a0 a2 v3 v4 (σ.1 61 v4.toNatClampNeg) (σ.1 62 v4.toNatClampNeg) ((σ.1 (Yc.2.2.2 a0 0) ((σ.1 61 v4.toNatClampNeg).toNatClampNeg)) - (σ.1 (Yc.2.2.2 a0 0) ((σ.1 62 v4.toNatClampNeg).toNatClampNeg))) (1 : Int32) _ σ Q _ ?_ h
            · intro v3_4 v4_4 g5_4 g6_4 g7_4 g8_4 σ4 h
              exact ih a0 a2 v3_4 v4_4 _ _ _ _ σ4 Q h
def w_X7_findNext (a0 : Nat) (a2 : Nat) (a3 : Int32) (σ : ds_S) (Q : Option Value → ds_S → Prop) : Prop := ds_k Yc a0 7 ∧ ds_EV mt_J7_fill_53178 Yc [.ref (Yc.2.2.2 a0 3), .int (0 : Int32)] σ (fun σ1 => ∃ n, w_X7_findNext_11 n a0 a2 a3 (0 : Int32) σ1 Q)
theorem e_X7_findNext (a0 : Nat) (a2 : Nat) (a3 : Int32) (σ : ds_S) (Q : Option Value → ds_S → Prop) (h : w_X7_findNext a0 a2 a3 σ Q) : ds_E mt_X7_findNext Yc [.ref a0, .ref 1, .ref a2, .int a3] σ Q := by
  refine ds_enter (by decide) (Nat.le_of_ble_eq_true rfl) ?_
  show ds_X mt_X7_findNext Yc 0 [some (.ref a0), some (.ref 1), some (.ref a2), some (.int a3), none, none, none, none, none] [] σ Q
  unfold w_X7_findNext at h
  obtain ⟨o1, h⟩ := h
  refine ds_blk (ls2 := [some (.ref a0), some (.ref 1), some (.ref a2), some (.int a3), none, none, none, none, none]) (st2 := [.int (0 : Int32), .ref (Yc.2.2.2 a0 3)]) (σ2 := σ) ok_X7_findNext 0 3 0 5 [ds_k Yc a0 7] rfl rfl rfl rfl ⟨o1, trivial⟩ ?_
  refine ds_callS (z := mt_J7_fill_53178) (as := [.ref (Yc.2.2.2 a0 3), .int (0 : Int32)]) (rest := []) (show decode mt_X7_findNext.2.1 5 = .ok (.invokestatic 27, 3) from ds_dec (i := (5, .invokestatic 27, 3, 0, 0, 439, .int 0)) ok_X7_findNext 3 rfl) (ds_E.mono h (fun r σ1 hr => ?_)) ⟨zw_J7_fill_53178.1, zw_J7_fill_53178.2.1, zw_J7_fill_53178.2.2, by decide, by decide⟩ (ds_wb_T (p := 439) (by decide +kernel)) zt_J7_fill_53178 (Nat.le_of_ble_eq_true rfl)
  obtain ⟨rfl, h⟩ := hr
  show ds_X mt_X7_findNext Yc 8 [some (.ref a0), some (.ref 1), some (.ref a2), some (.int a3), none, none, none, none, none] [] σ1 Q
  refine ds_blk (ls2 := [some (.ref a0), some (.ref 1), some (.ref a2), some (.int a3), some (.int (0 : Int32)), none, none, none, none]) (st2 := []) (σ2 := σ1) ok_X7_findNext 4 2 8 11 [] rfl rfl rfl rfl trivial ?_
  obtain ⟨n, h⟩ := h
  refine x_X7_findNext_11 n a0 a2 a3 (0 : Int32) _ _ _ _ σ1 Q h
def w_J7_fill_d0a16_6 : Nat → (a0 : Nat) → (v1 : Int64) → (v3 : Int32) → (v4 : Int32) → (σ : ds_S) → (Q : Option Value → ds_S → Prop) → Prop
  | 0, _, _, _, _, _, _ => False
  | f + 1, a0, v1, v3, v4, σ, Q => ((v4 ≤ v3 → Q none σ) ∧ (¬ v4 ≤ v3 → ds_k Yc a0 11 ∧ vp_in v3 (Yc.2.2.1 a0) ∧ w_J7_fill_d0a16_6 f a0 v1 (v3 + (1 : Int32)) v4 (ds_wl σ a0 v3.toNatClampNeg v1) Q))
theorem x_J7_fill_d0a16_6 : ∀ (f : Nat) (a0 : Nat) (v1 : Int64) (v3 : Int32) (v4 : Int32) (g2 : Option Value) (σ : ds_S) (Q : Option Value → ds_S → Prop), w_J7_fill_d0a16_6 f a0 v1 v3 v4 σ Q → ds_X mt_J7_fill_d0a16 Yc 6 [some (.ref a0), some (.long v1), g2, some (.int v3), some (.int v4)] [] σ Q := by
  intro f
  induction f with
  | zero => intro a0 v1 v3 v4 g2 σ Q h; exact False.elim h
  | succ f ih =>
    intro a0 v1 v3 v4 g2 σ Q h
    rw [w_J7_fill_d0a16_6] at h
    refine ds_blk (ls2 := [some (.ref a0), some (.long v1), g2, some (.int v3), some (.int v4)]) (st2 := [.int v4, .int v3]) (σ2 := σ) ok_J7_fill_d0a16 5 2 6 9 [] rfl rfl rfl rfl trivial ?_
    refine ds_ic_ge (show decode mt_J7_fill_d0a16.2.1 9 = .ok (.if_icmp .ge 13, 3) from ds_dec (i := (9, .if_icmp .ge 13, 3, 0, 0, 0, .int 0)) ok_J7_fill_d0a16 7 rfl) (t := 22) (by decide) (fun hc => ?_) (fun hc => ?_)
    · replace h := h.1 hc
      exact ds_vret (show decode mt_J7_fill_d0a16.2.1 22 = .ok (.return_, 1) from ds_dec (i := (22, .return_, 1, 0, 0, 0, .int 0)) ok_J7_fill_d0a16 14 rfl) rfl h
    · replace h := h.2 hc
      obtain ⟨o1, o2, h⟩ := h
      refine ds_blk (ls2 := [some (.ref a0), some (.long v1), (ds_nl g2), some (.int (v3 + (1 : Int32))), some (.int v4)]) (st2 := []) (σ2 := (ds_wl σ a0 v3.toNatClampNeg v1)) ok_J7_fill_d0a16 8 5 12 19 [ds_k Yc a0 11, vp_in v3 (Yc.2.2.1 a0)] rfl rfl rfl rfl ⟨o1, o2, trivial⟩ ?_
      refine ds_goto (show decode mt_J7_fill_d0a16.2.1 19 = .ok (.goto (-13), 3) from ds_dec (i := (19, .goto (-13), 3, 0, 0, 0, .int 0)) ok_J7_fill_d0a16 13 rfl) (t := 6) (by decide) ?_
      exact ih a0 v1 (v3 + (1 : Int32)) v4 _ (ds_wl σ a0 v3.toNatClampNeg v1) Q h
def w_J7_fill_d0a16 (a0 : Nat) (a1 : Int64) (σ : ds_S) (Q : Option Value → ds_S → Prop) : Prop := ds_k Yc a0 11 ∧ (∃ n, w_J7_fill_d0a16_6 n a0 a1 (0 : Int32) (Int32.ofNat (Yc.2.2.1 a0)) σ Q)
theorem e_J7_fill_d0a16 (a0 : Nat) (a1 : Int64) (σ : ds_S) (Q : Option Value → ds_S → Prop) (h : w_J7_fill_d0a16 a0 a1 σ Q) : ds_E mt_J7_fill_d0a16 Yc [.ref a0, .long a1] σ Q := by
  refine ds_enter (by decide) (Nat.le_of_ble_eq_true rfl) ?_
  show ds_X mt_J7_fill_d0a16 Yc 0 [some (.ref a0), some (.long a1), none, none, none] [] σ Q
  unfold w_J7_fill_d0a16 at h
  obtain ⟨o1, h⟩ := h
  refine ds_blk (ls2 := [some (.ref a0), some (.long a1), none, some (.int (0 : Int32)), some (.int (Int32.ofNat (Yc.2.2.1 a0)))]) (st2 := []) (σ2 := σ) ok_J7_fill_d0a16 0 5 0 6 [ds_k Yc a0 11] rfl rfl rfl rfl ⟨o1, trivial⟩ ?_
  obtain ⟨n, h⟩ := h
  refine x_J7_fill_d0a16_6 n a0 a1 (0 : Int32) (Int32.ofNat (Yc.2.2.1 a0)) _ σ Q h
def w_J7_fill_53178_5 : Nat → (a0 : Nat) → (v1 : Int32) → (v2 : Int32) → (v3 : Int32) → (σ : ds_S) → (Q : Option Value → ds_S → Prop) → Prop
  | 0, _, _, _, _, _, _ => False
  | f + 1, a0, v1, v2, v3, σ, Q => ((v3 ≤ v2 → Q none σ) ∧ (¬ v3 ≤ v2 → ds_k Yc a0 10 ∧ vp_in v2 (Yc.2.2.1 a0) ∧ w_J7_fill_53178_5 f a0 v1 (v2 + (1 : Int32)) v3 (ds_wi σ a0 v2.toNatClampNeg v1) Q))
theorem x_J7_fill_53178_5 : ∀ (f : Nat) (a0 : Nat) (v1 : Int32) (v2 : Int32) (v3 : Int32) (σ : ds_S) (Q : Option Value → ds_S → Prop), w_J7_fill_53178_5 f a0 v1 v2 v3 σ Q → ds_X mt_J7_fill_53178 Yc 5 [some (.ref a0), some (.int v1), some (.int v2), some (.int v3)] [] σ Q := by
  intro f
  induction f with
  | zero => intro a0 v1 v2 v3 σ Q h; exact False.elim h
  | succ f ih =>
    intro a0 v1 v2 v3 σ Q h
    rw [w_J7_fill_53178_5] at h
    refine ds_blk (ls2 := [some (.ref a0), some (.int v1), some (.int v2), some (.int v3)]) (st2 := [.int v3, .int v2]) (σ2 := σ) ok_J7_fill_53178 5 2 5 7 [] rfl rfl rfl rfl trivial ?_
    refine ds_ic_ge (show decode mt_J7_fill_53178.2.1 7 = .ok (.if_icmp .ge 13, 3) from ds_dec (i := (7, .if_icmp .ge 13, 3, 0, 0, 0, .int 0)) ok_J7_fill_53178 7 rfl) (t := 20) (by decide) (fun hc => ?_) (fun hc => ?_)
    · replace h := h.1 hc
      exact ds_vret (show decode mt_J7_fill_53178.2.1 20 = .ok (.return_, 1) from ds_dec (i := (20, .return_, 1, 0, 0, 0, .int 0)) ok_J7_fill_53178 14 rfl) rfl h
    · replace h := h.2 hc
      obtain ⟨o1, o2, h⟩ := h
      refine ds_blk (ls2 := [some (.ref a0), some (.int v1), some (.int (v2 + (1 : Int32))), some (.int v3)]) (st2 := []) (σ2 := (ds_wi σ a0 v2.toNatClampNeg v1)) ok_J7_fill_53178 8 5 10 17 [ds_k Yc a0 10, vp_in v2 (Yc.2.2.1 a0)] rfl rfl rfl rfl ⟨o1, o2, trivial⟩ ?_
      refine ds_goto (show decode mt_J7_fill_53178.2.1 17 = .ok (.goto (-12), 3) from ds_dec (i := (17, .goto (-12), 3, 0, 0, 0, .int 0)) ok_J7_fill_53178 13 rfl) (t := 5) (by decide) ?_
      exact ih a0 v1 (v2 + (1 : Int32)) v3 (ds_wi σ a0 v2.toNatClampNeg v1) Q h
def w_J7_fill_53178 (a0 : Nat) (a1 : Int32) (σ : ds_S) (Q : Option Value → ds_S → Prop) : Prop := ds_k Yc a0 10 ∧ (∃ n, w_J7_fill_53178_5 n a0 a1 (0 : Int32) (Int32.ofNat (Yc.2.2.1 a0)) σ Q)
theorem e_J7_fill_53178 (a0 : Nat) (a1 : Int32) (σ : ds_S) (Q : Option Value → ds_S → Prop) (h : w_J7_fill_53178 a0 a1 σ Q) : ds_E mt_J7_fill_53178 Yc [.ref a0, .int a1] σ Q := by
  refine ds_enter (by decide) (Nat.le_of_ble_eq_true rfl) ?_
  show ds_X mt_J7_fill_53178 Yc 0 [some (.ref a0), some (.int a1), none, none] [] σ Q
  unfold w_J7_fill_53178 at h
  obtain ⟨o1, h⟩ := h
  refine ds_blk (ls2 := [some (.ref a0), some (.int a1), some (.int (0 : Int32)), some (.int (Int32.ofNat (Yc.2.2.1 a0)))]) (st2 := []) (σ2 := σ) ok_J7_fill_53178 0 5 0 5 [ds_k Yc a0 10] rfl rfl rfl rfl ⟨o1, trivial⟩ ?_
  obtain ⟨n, h⟩ := h
  refine x_J7_fill_53178_5 n a0 a1 (0 : Int32) (Int32.ofNat (Yc.2.2.1 a0)) σ Q h
