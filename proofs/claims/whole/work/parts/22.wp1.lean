def w_X9_isBox (a1 : Int32) (σ : ds_S) (Q : Option Value → ds_S → Prop) : Prop := ((q_in a1.toInt64 (0 : Int64) (((σ.1 0 0) - (1 : Int32)).toInt64)) = 0 ∨ (q_in a1.toInt64 (0 : Int64) (((σ.1 0 0) - (1 : Int32)).toInt64)) = 1) ∧ Q (some (.int (q_in a1.toInt64 (0 : Int64) (((σ.1 0 0) - (1 : Int32)).toInt64)))) σ
theorem e_X9_isBox (a1 : Int32) (σ : ds_S) (Q : Option Value → ds_S → Prop) (h : w_X9_isBox a1 σ Q) : ds_E mt_X9_isBox Ym [.ref 0, .int a1] σ Q := by
  refine ds_enter (by decide) (Nat.le_of_ble_eq_true rfl) ?_
  show ds_X mt_X9_isBox Ym 0 [some (.ref 0), some (.int a1)] [] σ Q
  unfold w_X9_isBox at h
  refine ds_blk (ls2 := [some (.ref 0), some (.int a1)]) (st2 := [.long (((σ.1 0 0) - (1 : Int32)).toInt64), .long (0 : Int64), .long a1.toInt64]) (σ2 := σ) ok_X9_isBox 0 8 0 10 [ds_k Ym 0 9] rfl rfl rfl rfl ⟨⟨by decide, rfl⟩, trivial⟩ ?_
  refine ds_callS (z := mt_X9_in) (as := [.long a1.toInt64, .long (0 : Int64), .long (((σ.1 0 0) - (1 : Int32)).toInt64)]) (rest := []) (show decode mt_X9_isBox.2.1 10 = .ok (.invokestatic 73, 3) from ds_dec (i := (10, .invokestatic 73, 3, 0, 0, 836, .int 0)) ok_X9_isBox 8 rfl) (ds_E.mono (sp_X9_in a1.toInt64 (0 : Int64) (((σ.1 0 0) - (1 : Int32)).toInt64) σ ) (fun r σ1 hr => ?_)) ⟨zw_X9_in.1, zw_X9_in.2.1, zw_X9_in.2.2, by decide, by decide⟩ (ds_wb_T (p := 836) (by decide +kernel)) zt_X9_in (Nat.le_of_ble_eq_true rfl)
  obtain ⟨x9, rfl, e8, e9⟩ := hr
  rw [e8, e9]
  show ds_X mt_X9_isBox Ym 13 [some (.ref 0), some (.int a1)] [.int (q_in a1.toInt64 (0 : Int64) (((σ.1 0 0) - (1 : Int32)).toInt64))] σ Q
  obtain ⟨o1, h⟩ := h
  exact ds_zret (show decode mt_X9_isBox.2.1 13 = .ok (.ireturn, 1) from ds_dec (i := (13, .ireturn, 1, 0, 0, 0, .int 0)) ok_X9_isBox 9 rfl) rfl o1 h
def w_X9_isLine (a1 : Int32) (σ : ds_S) (Q : Option Value → ds_S → Prop) : Prop := ((q_in a1.toInt64 (0 : Int64) (((σ.1 0 7) - (1 : Int32)).toInt64)) = 0 ∨ (q_in a1.toInt64 (0 : Int64) (((σ.1 0 7) - (1 : Int32)).toInt64)) = 1) ∧ Q (some (.int (q_in a1.toInt64 (0 : Int64) (((σ.1 0 7) - (1 : Int32)).toInt64)))) σ
theorem e_X9_isLine (a1 : Int32) (σ : ds_S) (Q : Option Value → ds_S → Prop) (h : w_X9_isLine a1 σ Q) : ds_E mt_X9_isLine Ym [.ref 0, .int a1] σ Q := by
  refine ds_enter (by decide) (Nat.le_of_ble_eq_true rfl) ?_
  show ds_X mt_X9_isLine Ym 0 [some (.ref 0), some (.int a1)] [] σ Q
  unfold w_X9_isLine at h
  refine ds_blk (ls2 := [some (.ref 0), some (.int a1)]) (st2 := [.long (((σ.1 0 7) - (1 : Int32)).toInt64), .long (0 : Int64), .long a1.toInt64]) (σ2 := σ) ok_X9_isLine 0 8 0 10 [ds_k Ym 0 9] rfl rfl rfl rfl ⟨⟨by decide, rfl⟩, trivial⟩ ?_
  refine ds_callS (z := mt_X9_in) (as := [.long a1.toInt64, .long (0 : Int64), .long (((σ.1 0 7) - (1 : Int32)).toInt64)]) (rest := []) (show decode mt_X9_isLine.2.1 10 = .ok (.invokestatic 73, 3) from ds_dec (i := (10, .invokestatic 73, 3, 0, 0, 836, .int 0)) ok_X9_isLine 8 rfl) (ds_E.mono (sp_X9_in a1.toInt64 (0 : Int64) (((σ.1 0 7) - (1 : Int32)).toInt64) σ ) (fun r σ1 hr => ?_)) ⟨zw_X9_in.1, zw_X9_in.2.1, zw_X9_in.2.2, by decide, by decide⟩ (ds_wb_T (p := 836) (by decide +kernel)) zt_X9_in (Nat.le_of_ble_eq_true rfl)
  obtain ⟨x9, rfl, e8, e9⟩ := hr
  rw [e8, e9]
  show ds_X mt_X9_isLine Ym 13 [some (.ref 0), some (.int a1)] [.int (q_in a1.toInt64 (0 : Int64) (((σ.1 0 7) - (1 : Int32)).toInt64))] σ Q
  obtain ⟨o1, h⟩ := h
  exact ds_zret (show decode mt_X9_isLine.2.1 13 = .ok (.ireturn, 1) from ds_dec (i := (13, .ireturn, 1, 0, 0, 0, .int 0)) ok_X9_isLine 9 rfl) rfl o1 h
def w_X9_isTable (a0 : Int32) (σ : ds_S) (Q : Option Value → ds_S → Prop) : Prop := ((q_in a0.toInt64 (0 : Int64) (2 : Int64)) = 0 ∨ (q_in a0.toInt64 (0 : Int64) (2 : Int64)) = 1) ∧ Q (some (.int (q_in a0.toInt64 (0 : Int64) (2 : Int64)))) σ
theorem e_X9_isTable (a0 : Int32) (σ : ds_S) (Q : Option Value → ds_S → Prop) (h : w_X9_isTable a0 σ Q) : ds_E mt_X9_isTable Ym [.int a0] σ Q := by
  refine ds_enter (by decide) (Nat.le_of_ble_eq_true rfl) ?_
  show ds_X mt_X9_isTable Ym 0 [some (.int a0)] [] σ Q
  unfold w_X9_isTable at h
  refine ds_blk (ls2 := [some (.int a0)]) (st2 := [.long (2 : Int64), .long (0 : Int64), .long a0.toInt64]) (σ2 := σ) ok_X9_isTable 0 4 0 6 [] rfl rfl rfl rfl trivial ?_
  refine ds_callS (z := mt_X9_in) (as := [.long a0.toInt64, .long (0 : Int64), .long (2 : Int64)]) (rest := []) (show decode mt_X9_isTable.2.1 6 = .ok (.invokestatic 73, 3) from ds_dec (i := (6, .invokestatic 73, 3, 0, 0, 836, .int 0)) ok_X9_isTable 4 rfl) (ds_E.mono (sp_X9_in a0.toInt64 (0 : Int64) (2 : Int64) σ ) (fun r σ1 hr => ?_)) ⟨zw_X9_in.1, zw_X9_in.2.1, zw_X9_in.2.2, by decide, by decide⟩ (ds_wb_T (p := 836) (by decide +kernel)) zt_X9_in (Nat.le_of_ble_eq_true rfl)
  obtain ⟨x9, rfl, e8, e9⟩ := hr
  rw [e8, e9]
  show ds_X mt_X9_isTable Ym 9 [some (.int a0)] [.int (q_in a0.toInt64 (0 : Int64) (2 : Int64))] σ Q
  obtain ⟨o1, h⟩ := h
  exact ds_zret (show decode mt_X9_isTable.2.1 9 = .ok (.ireturn, 1) from ds_dec (i := (9, .ireturn, 1, 0, 0, 0, .int 0)) ok_X9_isTable 5 rfl) rfl o1 h
def w_X9_lowest (a0 : Int64) (a2 : Int64) (a4 : Int32) (σ : ds_S) (Q : Option Value → ds_S → Prop) : Prop := 0 ≤ a0 ∧ 0 ≤ a2 ∧ ((¬ a4 = 0 → ¬ (q_gcd a0 a2) = 0 ∧ Q (some (.long (a2 / (q_gcd a0 a2)))) σ) ∧ (a4 = 0 → ¬ (q_gcd a0 a2) = 0 ∧ Q (some (.long (a0 / (q_gcd a0 a2)))) σ))
theorem e_X9_lowest (a0 : Int64) (a2 : Int64) (a4 : Int32) (σ : ds_S) (Q : Option Value → ds_S → Prop) (h : w_X9_lowest a0 a2 a4 σ Q) : ds_E mt_X9_lowest Ym [.long a0, .long a2, .int a4] σ Q := by
  refine ds_enter (by decide) (Nat.le_of_ble_eq_true rfl) ?_
  show ds_X mt_X9_lowest Ym 0 [some (.long a0), none, some (.long a2), none, some (.int a4), none, none] [] σ Q
  unfold w_X9_lowest at h
  refine ds_blk (ls2 := [some (.long a0), none, some (.long a2), none, some (.int a4), none, none]) (st2 := [.long a2, .long a0]) (σ2 := σ) ok_X9_lowest 0 2 0 2 [] rfl rfl rfl rfl trivial ?_
  obtain ⟨o1, o2, h⟩ := h
  refine ds_callS (z := mt_X9_common) (as := [.long a0, .long a2]) (rest := []) (show decode mt_X9_lowest.2.1 2 = .ok (.invokestatic 134, 3) from ds_dec (i := (2, .invokestatic 134, 3, 0, 0, 922, .int 0)) ok_X9_lowest 2 rfl) (ds_E.mono (sp_X9_common a0 a2 σ o1 o2) (fun r σ1 hr => ?_)) ⟨zw_X9_common.1, zw_X9_common.2.1, zw_X9_common.2.2, by decide, by decide⟩ (ds_wb_T (p := 922) (by decide +kernel)) zt_X9_common (Nat.le_of_ble_eq_true rfl)
  obtain ⟨x9, rfl, e8, e9⟩ := hr
  rw [e8, e9]
  show ds_X mt_X9_lowest Ym 5 [some (.long a0), none, some (.long a2), none, some (.int a4), none, none] [.long (q_gcd a0 a2)] σ Q
  refine ds_blk (ls2 := [some (.long a0), none, some (.long a2), none, some (.int a4), some (.long (q_gcd a0 a2)), none]) (st2 := [.int a4]) (σ2 := σ) ok_X9_lowest 3 2 5 9 [] rfl rfl rfl rfl trivial ?_
  refine ds_if_ne (show decode mt_X9_lowest.2.1 9 = .ok (.ifCond .ne 10, 3) from ds_dec (i := (9, .ifCond .ne 10, 3, 0, 0, 0, .int 0)) ok_X9_lowest 5 rfl) (t := 19) (by decide) (fun hc => ?_) (fun hc => ?_)
  · replace h := h.1 hc
    obtain ⟨o3, h⟩ := h
    refine ds_blk (ls2 := [some (.long a0), none, some (.long a2), none, some (.int a4), some (.long (q_gcd a0 a2)), none]) (st2 := [.long (a2 / (q_gcd a0 a2))]) (σ2 := σ) ok_X9_lowest 10 3 19 23 [¬ (q_gcd a0 a2) = 0] rfl rfl rfl rfl ⟨o3, trivial⟩ ?_
    exact ds_lret (show decode mt_X9_lowest.2.1 23 = .ok (.lreturn, 1) from ds_dec (i := (23, .lreturn, 1, 0, 0, 0, .int 0)) ok_X9_lowest 13 rfl) rfl h
  · replace h := h.2 hc
    obtain ⟨o4, h⟩ := h
    refine ds_blk (ls2 := [some (.long a0), none, some (.long a2), none, some (.int a4), some (.long (q_gcd a0 a2)), none]) (st2 := [.long (a0 / (q_gcd a0 a2))]) (σ2 := σ) ok_X9_lowest 6 3 12 16 [¬ (q_gcd a0 a2) = 0] rfl rfl rfl rfl ⟨o4, trivial⟩ ?_
    refine ds_goto (show decode mt_X9_lowest.2.1 16 = .ok (.goto 7, 3) from ds_dec (i := (16, .goto 7, 3, 0, 0, 0, .int 0)) ok_X9_lowest 9 rfl) (t := 23) (by decide) ?_
    exact ds_lret (show decode mt_X9_lowest.2.1 23 = .ok (.lreturn, 1) from ds_dec (i := (23, .lreturn, 1, 0, 0, 0, .int 0)) ok_X9_lowest 13 rfl) rfl h
def w_X1_arePair (a1 : Int32) (a2 : Int32) (σ : ds_S) (Q : Option Value → ds_S → Prop) : Prop := (((q_rng a1 0 (σ.1 1 0)) = 0 → Q (some (.int (0 : Int32))) σ) ∧ (¬ (q_rng a1 0 (σ.1 1 0)) = 0 → (((q_rng a2 0 (σ.1 1 0)) = 0 → Q (some (.int (0 : Int32))) σ) ∧ (¬ (q_rng a2 0 (σ.1 1 0)) = 0 → ((a1 = a2 → Q (some (.int (0 : Int32))) σ) ∧ (¬ a1 = a2 → Q (some (.int (1 : Int32))) σ))))))
theorem e_X1_arePair (a1 : Int32) (a2 : Int32) (σ : ds_S) (Q : Option Value → ds_S → Prop) (h : w_X1_arePair a1 a2 σ Q) : ds_E mt_X1_arePair Yc [.ref 1, .int a1, .int a2] σ Q := by
  refine ds_enter (by decide) (Nat.le_of_ble_eq_true rfl) ?_
  show ds_X mt_X1_arePair Yc 0 [some (.ref 1), some (.int a1), some (.int a2)] [] σ Q
  unfold w_X1_arePair at h
  refine ds_blk (ls2 := [some (.ref 1), some (.int a1), some (.int a2)]) (st2 := [.int a1, .ref 1]) (σ2 := σ) ok_X1_arePair 0 2 0 2 [] rfl rfl rfl rfl trivial ?_
  refine ds_callV (z := mt_X1_hasBox) (b := 1) (as := [.int a1]) (rest := []) (show decode mt_X1_arePair.2.1 2 = .ok (.invokevirtual 37, 3) from ds_dec (i := (2, .invokevirtual 37, 3, 0, 0, 376, .int 0)) ok_X1_arePair 2 rfl) (ds_E.mono (sp_X1_hasBox a1 σ ) (fun r σ1 hr => ?_)) ⟨zw_X1_hasBox.1, zw_X1_hasBox.2.1, zw_X1_hasBox.2.2, by decide, by decide⟩ (ds_wb_T (p := 376) (by decide +kernel)) zi_X1_hasBox zs_X1_hasBox (by decide) rfl ⟨_, rfl, rfl⟩ (Nat.le_of_ble_eq_true rfl)
  obtain ⟨x9, rfl, e8, e9⟩ := hr
  rw [e8, e9]
  show ds_X mt_X1_arePair Yc 5 [some (.ref 1), some (.int a1), some (.int a2)] [.int (q_rng a1 0 (σ.1 1 0))] σ Q
  refine ds_if_eq (show decode mt_X1_arePair.2.1 5 = .ok (.ifCond .eq 20, 3) from ds_dec (i := (5, .ifCond .eq 20, 3, 0, 0, 0, .int 0)) ok_X1_arePair 3 rfl) (t := 25) (by decide) (fun hc => ?_) (fun hc => ?_)
  · replace h := h.1 hc
    refine ds_blk (ls2 := [some (.ref 1), some (.int a1), some (.int a2)]) (st2 := [.int (0 : Int32)]) (σ2 := σ) ok_X1_arePair 13 1 25 26 [] rfl rfl rfl rfl trivial ?_
    exact ds_zret (show decode mt_X1_arePair.2.1 26 = .ok (.ireturn, 1) from ds_dec (i := (26, .ireturn, 1, 0, 0, 0, .int 0)) ok_X1_arePair 14 rfl) rfl (by decide) h
  · replace h := h.2 hc
    refine ds_blk (ls2 := [some (.ref 1), some (.int a1), some (.int a2)]) (st2 := [.int a2, .ref 1]) (σ2 := σ) ok_X1_arePair 4 2 8 10 [] rfl rfl rfl rfl trivial ?_
    refine ds_callV (z := mt_X1_hasBox) (b := 1) (as := [.int a2]) (rest := []) (show decode mt_X1_arePair.2.1 10 = .ok (.invokevirtual 37, 3) from ds_dec (i := (10, .invokevirtual 37, 3, 0, 0, 376, .int 0)) ok_X1_arePair 6 rfl) (ds_E.mono (sp_X1_hasBox a2 σ ) (fun r σ2 hr => ?_)) ⟨zw_X1_hasBox.1, zw_X1_hasBox.2.1, zw_X1_hasBox.2.2, by decide, by decide⟩ (ds_wb_T (p := 376) (by decide +kernel)) zi_X1_hasBox zs_X1_hasBox (by decide) rfl ⟨_, rfl, rfl⟩ (Nat.le_of_ble_eq_true rfl)
    obtain ⟨x9, rfl, e8, e9⟩ := hr
    rw [e8, e9]
    show ds_X mt_X1_arePair Yc 13 [some (.ref 1), some (.int a1), some (.int a2)] [.int (q_rng a2 0 (σ.1 1 0))] σ Q
    refine ds_if_eq (show decode mt_X1_arePair.2.1 13 = .ok (.ifCond .eq 12, 3) from ds_dec (i := (13, .ifCond .eq 12, 3, 0, 0, 0, .int 0)) ok_X1_arePair 7 rfl) (t := 25) (by decide) (fun hc => ?_) (fun hc => ?_)
    · replace h := h.1 hc
      refine ds_blk (ls2 := [some (.ref 1), some (.int a1), some (.int a2)]) (st2 := [.int (0 : Int32)]) (σ2 := σ) ok_X1_arePair 13 1 25 26 [] rfl rfl rfl rfl trivial ?_
      exact ds_zret (show decode mt_X1_arePair.2.1 26 = .ok (.ireturn, 1) from ds_dec (i := (26, .ireturn, 1, 0, 0, 0, .int 0)) ok_X1_arePair 14 rfl) rfl (by decide) h
    · replace h := h.2 hc
      refine ds_blk (ls2 := [some (.ref 1), some (.int a1), some (.int a2)]) (st2 := [.int a2, .int a1]) (σ2 := σ) ok_X1_arePair 8 2 16 18 [] rfl rfl rfl rfl trivial ?_
      refine ds_ic_eq (show decode mt_X1_arePair.2.1 18 = .ok (.if_icmp .eq 7, 3) from ds_dec (i := (18, .if_icmp .eq 7, 3, 0, 0, 0, .int 0)) ok_X1_arePair 10 rfl) (t := 25) (by decide) (fun hc => ?_) (fun hc => ?_)
      · replace h := h.1 hc
        refine ds_blk (ls2 := [some (.ref 1), some (.int a1), some (.int a2)]) (st2 := [.int (0 : Int32)]) (σ2 := σ) ok_X1_arePair 13 1 25 26 [] rfl rfl rfl rfl trivial ?_
        exact ds_zret (show decode mt_X1_arePair.2.1 26 = .ok (.ireturn, 1) from ds_dec (i := (26, .ireturn, 1, 0, 0, 0, .int 0)) ok_X1_arePair 14 rfl) rfl (by decide) h
      · replace h := h.2 hc
        refine ds_blk (ls2 := [some (.ref 1), some (.int a1), some (.int a2)]) (st2 := [.int (1 : Int32)]) (σ2 := σ) ok_X1_arePair 11 1 21 22 [] rfl rfl rfl rfl trivial ?_
        refine ds_goto (show decode mt_X1_arePair.2.1 22 = .ok (.goto 4, 3) from ds_dec (i := (22, .goto 4, 3, 0, 0, 0, .int 0)) ok_X1_arePair 12 rfl) (t := 26) (by decide) ?_
        exact ds_zret (show decode mt_X1_arePair.2.1 26 = .ok (.ireturn, 1) from ds_dec (i := (26, .ireturn, 1, 0, 0, 0, .int 0)) ok_X1_arePair 14 rfl) rfl (by decide) h
def w_X8_fraction_17 (v5 : Int64) (t0 : Int64) (σ : ds_S) (Q : Option Value → ds_S → Prop) : Prop := (((lg_cmp v5 (0 : Int64)) ≤ 0 → Q (some (.long (t0 / (1 : Int64)))) σ) ∧ (¬ (lg_cmp v5 (0 : Int64)) ≤ 0 → ¬ v5 = 0 ∧ Q (some (.long (t0 / v5))) σ))
theorem x_X8_fraction_17 (v5 : Int64) (t0 : Int64) (g0 : Option Value) (g1 : Option Value) (g2 : Option Value) (g3 : Option Value) (g4 : Option Value) (g6 : Option Value) (σ : ds_S) (Q : Option Value → ds_S → Prop) (h : w_X8_fraction_17 v5 t0 σ Q) : ds_X mt_X8_fraction Yc 17 [g0, g1, g2, g3, g4, some (.long v5), g6] [.long t0] σ Q := by
  unfold w_X8_fraction_17 at h
  refine ds_blk (ls2 := [g0, g1, g2, g3, g4, some (.long v5), g6]) (st2 := [.int (lg_cmp v5 (0 : Int64)), .long t0]) (σ2 := σ) ok_X8_fraction 9 3 17 21 [] rfl rfl rfl rfl trivial ?_
  refine ds_if_le (show decode mt_X8_fraction.2.1 21 = .ok (.ifCond .le 8, 3) from ds_dec (i := (21, .ifCond .le 8, 3, 0, 0, 0, .int 0)) ok_X8_fraction 12 rfl) (t := 29) (by decide) (fun hc => ?_) (fun hc => ?_)
  · replace h := h.1 hc
    refine ds_blk (ls2 := [g0, g1, g2, g3, g4, some (.long v5), g6]) (st2 := [.long (t0 / (1 : Int64))]) (σ2 := σ) ok_X8_fraction 15 2 29 31 [¬ (1 : Int64) = 0] rfl rfl rfl rfl ⟨(by decide), trivial⟩ ?_
    exact ds_lret (show decode mt_X8_fraction.2.1 31 = .ok (.lreturn, 1) from ds_dec (i := (31, .lreturn, 1, 0, 0, 0, .int 0)) ok_X8_fraction 17 rfl) rfl h
  · replace h := h.2 hc
    refine ds_blk (ls2 := [g0, g1, g2, g3, g4, some (.long v5), g6]) (st2 := [.long v5, .long t0]) (σ2 := σ) ok_X8_fraction 13 1 24 26 [] rfl rfl rfl rfl trivial ?_
    refine ds_goto (show decode mt_X8_fraction.2.1 26 = .ok (.goto 4, 3) from ds_dec (i := (26, .goto 4, 3, 0, 0, 0, .int 0)) ok_X8_fraction 14 rfl) (t := 30) (by decide) ?_
    obtain ⟨o1, h⟩ := h
    refine ds_blk (ls2 := [g0, g1, g2, g3, g4, some (.long v5), g6]) (st2 := [.long (t0 / v5)]) (σ2 := σ) ok_X8_fraction 16 1 30 31 [¬ v5 = 0] rfl rfl rfl rfl ⟨o1, trivial⟩ ?_
    exact ds_lret (show decode mt_X8_fraction.2.1 31 = .ok (.lreturn, 1) from ds_dec (i := (31, .lreturn, 1, 0, 0, 0, .int 0)) ok_X8_fraction 17 rfl) rfl h
def w_X8_fraction (a0 : Int64) (a2 : Int64) (a4 : Int32) (σ : ds_S) (Q : Option Value → ds_S → Prop) : Prop := 0 ≤ a0 ∧ 0 ≤ a2 ∧ a2 < 562949953421312 ∧ ((¬ a4 = 0 → w_X8_fraction_17 (q_gcd a0 a2) a2 σ Q) ∧ (a4 = 0 → w_X8_fraction_17 (q_gcd a0 a2) a0 σ Q))
theorem e_X8_fraction (a0 : Int64) (a2 : Int64) (a4 : Int32) (σ : ds_S) (Q : Option Value → ds_S → Prop) (h : w_X8_fraction a0 a2 a4 σ Q) : ds_E mt_X8_fraction Yc [.long a0, .long a2, .int a4] σ Q := by
  refine ds_enter (by decide) (Nat.le_of_ble_eq_true rfl) ?_
  show ds_X mt_X8_fraction Yc 0 [some (.long a0), none, some (.long a2), none, some (.int a4), none, none] [] σ Q
  unfold w_X8_fraction at h
  refine ds_blk (ls2 := [some (.long a0), none, some (.long a2), none, some (.int a4), none, none]) (st2 := [.long a2, .long a0]) (σ2 := σ) ok_X8_fraction 0 2 0 2 [] rfl rfl rfl rfl trivial ?_
  obtain ⟨o1, o2, o3, h⟩ := h
  refine ds_callS (z := mt_X8_commonDivisor) (as := [.long a0, .long a2]) (rest := []) (show decode mt_X8_fraction.2.1 2 = .ok (.invokestatic 290, 3) from ds_dec (i := (2, .invokestatic 290, 3, 0, 0, 485, .int 0)) ok_X8_fraction 2 rfl) (ds_E.mono (sp_X8_commonDivisor a0 a2 σ o1 o2 o3) (fun r σ1 hr => ?_)) ⟨zw_X8_commonDivisor.1, zw_X8_commonDivisor.2.1, zw_X8_commonDivisor.2.2, by decide, by decide⟩ (ds_wb_T (p := 485) (by decide +kernel)) zt_X8_commonDivisor (Nat.le_of_ble_eq_true rfl)
  obtain ⟨x9, rfl, e8, e9⟩ := hr
  rw [e8, e9]
  show ds_X mt_X8_fraction Yc 5 [some (.long a0), none, some (.long a2), none, some (.int a4), none, none] [.long (q_gcd a0 a2)] σ Q
  refine ds_blk (ls2 := [some (.long a0), none, some (.long a2), none, some (.int a4), some (.long (q_gcd a0 a2)), none]) (st2 := [.int a4]) (σ2 := σ) ok_X8_fraction 3 2 5 9 [] rfl rfl rfl rfl trivial ?_
  refine ds_if_ne (show decode mt_X8_fraction.2.1 9 = .ok (.ifCond .ne 7, 3) from ds_dec (i := (9, .ifCond .ne 7, 3, 0, 0, 0, .int 0)) ok_X8_fraction 5 rfl) (t := 16) (by decide) (fun hc => ?_) (fun hc => ?_)
  · replace h := h.1 hc
    refine ds_blk (ls2 := [some (.long a0), none, some (.long a2), none, some (.int a4), some (.long (q_gcd a0 a2)), none]) (st2 := [.long a2]) (σ2 := σ) ok_X8_fraction 8 1 16 17 [] rfl rfl rfl rfl trivial ?_
    refine x_X8_fraction_17 (q_gcd a0 a2) a2 _ _ _ _ _ _ σ Q h
  · replace h := h.2 hc
    refine ds_blk (ls2 := [some (.long a0), none, some (.long a2), none, some (.int a4), some (.long (q_gcd a0 a2)), none]) (st2 := [.long a0]) (σ2 := σ) ok_X8_fraction 6 1 12 13 [] rfl rfl rfl rfl trivial ?_
    refine ds_goto (show decode mt_X8_fraction.2.1 13 = .ok (.goto 4, 3) from ds_dec (i := (13, .goto 4, 3, 0, 0, 0, .int 0)) ok_X8_fraction 7 rfl) (t := 17) (by decide) ?_
    refine x_X8_fraction_17 (q_gcd a0 a2) a0 _ _ _ _ _ _ σ Q h
def w_X3_compareWith (a0 : Nat) (a1 : Nat) (σ : ds_S) (Q : Option Value → ds_S → Prop) : Prop := ds_k Yc a0 3 ∧ ds_k Yc a1 3 ∧ ds_k Yc a1 3 ∧ ds_k Yc a0 3 ∧ Q (some (.int (q_cmp ((σ.2 a0 0) * (σ.1 a1 1).toInt64) ((σ.2 a1 0) * (σ.1 a0 1).toInt64)))) σ
theorem e_X3_compareWith (a0 : Nat) (a1 : Nat) (σ : ds_S) (Q : Option Value → ds_S → Prop) (h : w_X3_compareWith a0 a1 σ Q) : ds_E mt_X3_compareWith Yc [.ref a0, .ref a1] σ Q := by
  refine ds_enter (by decide) (Nat.le_of_ble_eq_true rfl) ?_
  show ds_X mt_X3_compareWith Yc 0 [some (.ref a0), some (.ref a1)] [] σ Q
  unfold w_X3_compareWith at h
  obtain ⟨o1, o2, o3, o4, h⟩ := h
  refine ds_blk (ls2 := [some (.ref a0), some (.ref a1)]) (st2 := [.long ((σ.2 a1 0) * (σ.1 a0 1).toInt64), .long ((σ.2 a0 0) * (σ.1 a1 1).toInt64)]) (σ2 := σ) ok_X3_compareWith 0 12 0 20 [ds_k Yc a0 3, ds_k Yc a1 3, ds_k Yc a1 3, ds_k Yc a0 3] rfl rfl rfl rfl ⟨o1, o2, o3, o4, trivial⟩ ?_
  refine ds_callS (z := mt_J13_compare_74951) (as := [.long ((σ.2 a0 0) * (σ.1 a1 1).toInt64), .long ((σ.2 a1 0) * (σ.1 a0 1).toInt64)]) (rest := []) (show decode mt_X3_compareWith.2.1 20 = .ok (.invokestatic 48, 3) from ds_dec (i := (20, .invokestatic 48, 3, 0, 0, 560, .int 0)) ok_X3_compareWith 12 rfl) (ds_E.mono (sp_J13_compare_74951 ((σ.2 a0 0) * (σ.1 a1 1).toInt64) ((σ.2 a1 0) * (σ.1 a0 1).toInt64) σ ) (fun r σ1 hr => ?_)) ⟨zw_J13_compare_74951.1, zw_J13_compare_74951.2.1, zw_J13_compare_74951.2.2, by decide, by decide⟩ (ds_wb_T (p := 560) (by decide +kernel)) zt_J13_compare_74951 (Nat.le_of_ble_eq_true rfl)
  obtain ⟨x9, rfl, e8, e9⟩ := hr
  rw [e8, e9]
  show ds_X mt_X3_compareWith Yc 23 [some (.ref a0), some (.ref a1)] [.int (q_cmp ((σ.2 a0 0) * (σ.1 a1 1).toInt64) ((σ.2 a1 0) * (σ.1 a0 1).toInt64))] σ Q
  exact ds_iret (show decode mt_X3_compareWith.2.1 23 = .ok (.ireturn, 1) from ds_dec (i := (23, .ireturn, 1, 0, 0, 0, .int 0)) ok_X3_compareWith 13 rfl) rfl h
