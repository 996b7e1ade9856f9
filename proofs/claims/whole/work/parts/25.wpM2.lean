def w_X9_all (a1 : Int32) (σ : ds_S) (Q : Option Value → ds_S → Prop) : Prop := ((¬ (q_in a1.toInt64 (0 : Int64) (3 : Int64)) = 0 → ds_EV mt_X9_findAll Ym [.ref 0] σ (fun σ2 => ((¬ a1 = 0 → ((¬ a1 = (1 : Int32) → ((¬ a1 = (2 : Int32) → Q (some (.long ((σ2.1 0 25).toInt64))) σ2) ∧ (a1 = (2 : Int32) → Q (some (.long ((σ2.1 0 24).toInt64))) σ2))) ∧ (a1 = (1 : Int32) → Q (some (.long (σ2.2 0 23))) σ2))) ∧ (a1 = 0 → Q (some (.long (σ2.2 0 22))) σ2)))) ∧ ((q_in a1.toInt64 (0 : Int64) (3 : Int64)) = 0 → Q (some (.long (-1000000000000000002 : Int64))) σ))
theorem e_X9_all (a1 : Int32) (σ : ds_S) (Q : Option Value → ds_S → Prop) (h : w_X9_all a1 σ Q) : ds_E mt_X9_all Ym [.ref 0, .int a1] σ Q := by
  refine ds_enter (by decide) (Nat.le_of_ble_eq_true rfl) ?_
  show ds_X mt_X9_all Ym 0 [some (.ref 0), some (.int a1)] [] σ Q
  unfold w_X9_all at h
  refine ds_blk (ls2 := [some (.ref 0), some (.int a1)]) (st2 := [.long (3 : Int64), .long (0 : Int64), .long a1.toInt64]) (σ2 := σ) ok_X9_all 0 4 0 6 [] rfl rfl rfl rfl trivial ?_
  refine ds_callS (z := mt_X9_in) (as := [.long a1.toInt64, .long (0 : Int64), .long (3 : Int64)]) (rest := []) (show decode mt_X9_all.2.1 6 = .ok (.invokestatic 73, 3) from ds_dec (i := (6, .invokestatic 73, 3, 0, 0, 836, .int 0)) ok_X9_all 4 rfl) (ds_E.mono (sp_X9_in a1.toInt64 (0 : Int64) (3 : Int64) σ ) (fun r σ1 hr => ?_)) ⟨zw_X9_in.1, zw_X9_in.2.1, zw_X9_in.2.2, by decide, by decide⟩ (ds_wb_T (p := 836) (by decide +kernel)) zt_X9_in (Nat.le_of_ble_eq_true rfl)
  obtain ⟨x9, rfl, e8, e9⟩ := hr
  rw [e8, e9]
  show ds_X mt_X9_all Ym 9 [some (.ref 0), some (.int a1)] [.int (q_in a1.toInt64 (0 : Int64) (3 : Int64))] σ Q
  refine ds_if_ne (show decode mt_X9_all.2.1 9 = .ok (.ifCond .ne 7, 3) from ds_dec (i := (9, .ifCond .ne 7, 3, 0, 0, 0, .int 0)) ok_X9_all 5 rfl) (t := 16) (by decide) (fun hc => ?_) (fun hc => ?_)
  · replace h := h.1 hc
    refine ds_blk (ls2 := [some (.ref 0), some (.int a1)]) (st2 := [.ref 0]) (σ2 := σ) ok_X9_all 8 1 16 17 [] rfl rfl rfl rfl trivial ?_
    refine ds_callV (z := mt_X9_findAll) (b := 0) (as := []) (rest := []) (show decode mt_X9_all.2.1 17 = .ok (.invokevirtual 187, 3) from ds_dec (i := (17, .invokevirtual 187, 3, 0, 0, 954, .int 0)) ok_X9_all 9 rfl) (ds_E.mono h (fun r σ2 hr => ?_)) ⟨zw_X9_findAll.1, zw_X9_findAll.2.1, zw_X9_findAll.2.2, by decide, by decide⟩ (ds_wb_T (p := 954) (by decide +kernel)) zi_X9_findAll zs_X9_findAll (by decide) rfl ⟨_, rfl, rfl⟩ (Nat.le_of_ble_eq_true rfl)
    obtain ⟨rfl, h⟩ := hr
    show ds_X mt_X9_all Ym 20 [some (.ref 0), some (.int a1)] [] σ2 Q
    refine ds_blk (ls2 := [some (.ref 0), some (.int a1)]) (st2 := [.int a1]) (σ2 := σ2) ok_X9_all 10 1 20 21 [] rfl rfl rfl rfl trivial ?_
    refine ds_if_ne (show decode mt_X9_all.2.1 21 = .ok (.ifCond .ne 10, 3) from ds_dec (i := (21, .ifCond .ne 10, 3, 0, 0, 0, .int 0)) ok_X9_all 11 rfl) (t := 31) (by decide) (fun hc => ?_) (fun hc => ?_)
    · replace h := h.1 hc
      refine ds_blk (ls2 := [some (.ref 0), some (.int a1)]) (st2 := [.int (1 : Int32), .int a1]) (σ2 := σ2) ok_X9_all 15 2 31 33 [] rfl rfl rfl rfl trivial ?_
      refine ds_ic_ne (show decode mt_X9_all.2.1 33 = .ok (.if_icmp .ne 10, 3) from ds_dec (i := (33, .if_icmp .ne 10, 3, 0, 0, 0, .int 0)) ok_X9_all 17 rfl) (t := 43) (by decide) (fun hc => ?_) (fun hc => ?_)
      · replace h := h.1 hc
        refine ds_blk (ls2 := [some (.ref 0), some (.int a1)]) (st2 := [.int (2 : Int32), .int a1]) (σ2 := σ2) ok_X9_all 21 2 43 45 [] rfl rfl rfl rfl trivial ?_
        refine ds_ic_ne (show decode mt_X9_all.2.1 45 = .ok (.if_icmp .ne 11, 3) from ds_dec (i := (45, .if_icmp .ne 11, 3, 0, 0, 0, .int 0)) ok_X9_all 23 rfl) (t := 56) (by decide) (fun hc => ?_) (fun hc => ?_)
        · replace h := h.1 hc
          refine ds_blk (ls2 := [some (.ref 0), some (.int a1)]) (st2 := [.long ((σ2.1 0 25).toInt64)]) (σ2 := σ2) ok_X9_all 28 3 56 61 [ds_k Ym 0 9] rfl rfl rfl rfl ⟨⟨by decide, rfl⟩, trivial⟩ ?_
          exact ds_lret (show decode mt_X9_all.2.1 61 = .ok (.lreturn, 1) from ds_dec (i := (61, .lreturn, 1, 0, 0, 0, .int 0)) ok_X9_all 31 rfl) rfl h
        · replace h := h.2 hc
          refine ds_blk (ls2 := [some (.ref 0), some (.int a1)]) (st2 := [.long ((σ2.1 0 24).toInt64)]) (σ2 := σ2) ok_X9_all 24 3 48 53 [ds_k Ym 0 9] rfl rfl rfl rfl ⟨⟨by decide, rfl⟩, trivial⟩ ?_
          refine ds_goto (show decode mt_X9_all.2.1 53 = .ok (.goto 8, 3) from ds_dec (i := (53, .goto 8, 3, 0, 0, 0, .int 0)) ok_X9_all 27 rfl) (t := 61) (by decide) ?_
          exact ds_lret (show decode mt_X9_all.2.1 61 = .ok (.lreturn, 1) from ds_dec (i := (61, .lreturn, 1, 0, 0, 0, .int 0)) ok_X9_all 31 rfl) rfl h
      · replace h := h.2 hc
        refine ds_blk (ls2 := [some (.ref 0), some (.int a1)]) (st2 := [.long (σ2.2 0 23)]) (σ2 := σ2) ok_X9_all 18 2 36 40 [ds_k Ym 0 9] rfl rfl rfl rfl ⟨⟨by decide, rfl⟩, trivial⟩ ?_
        refine ds_goto (show decode mt_X9_all.2.1 40 = .ok (.goto 21, 3) from ds_dec (i := (40, .goto 21, 3, 0, 0, 0, .int 0)) ok_X9_all 20 rfl) (t := 61) (by decide) ?_
        exact ds_lret (show decode mt_X9_all.2.1 61 = .ok (.lreturn, 1) from ds_dec (i := (61, .lreturn, 1, 0, 0, 0, .int 0)) ok_X9_all 31 rfl) rfl h
    · replace h := h.2 hc
      refine ds_blk (ls2 := [some (.ref 0), some (.int a1)]) (st2 := [.long (σ2.2 0 22)]) (σ2 := σ2) ok_X9_all 12 2 24 28 [ds_k Ym 0 9] rfl rfl rfl rfl ⟨⟨by decide, rfl⟩, trivial⟩ ?_
      refine ds_goto (show decode mt_X9_all.2.1 28 = .ok (.goto 33, 3) from ds_dec (i := (28, .goto 33, 3, 0, 0, 0, .int 0)) ok_X9_all 14 rfl) (t := 61) (by decide) ?_
      exact ds_lret (show decode mt_X9_all.2.1 61 = .ok (.lreturn, 1) from ds_dec (i := (61, .lreturn, 1, 0, 0, 0, .int 0)) ok_X9_all 31 rfl) rfl h
  · replace h := h.2 hc
    refine ds_blk (ls2 := [some (.ref 0), some (.int a1)]) (st2 := [.long (-1000000000000000002 : Int64)]) (σ2 := σ) ok_X9_all 6 1 12 15 [] rfl rfl rfl rfl trivial ?_
    exact ds_lret (show decode mt_X9_all.2.1 15 = .ok (.lreturn, 1) from ds_dec (i := (15, .lreturn, 1, 0, 0, 0, .int 0)) ok_X9_all 7 rfl) rfl h
def w_X9_parted_59 : Nat → (v1 : Int32) → (v3 : Int32) → (v4 : Int32) → (v5 : Int32) → (σ : ds_S) → (Q : Option Value → ds_S → Prop) → (K102 : Int32 → Int32 → Int32 → ds_S → Prop) → Prop
  | 0, _, _, _, _, _, _, _ => False
  | f + 1, v1, v3, v4, v5, σ, Q, K102 => (((σ.1 0 0) ≤ v5 → K102 v1 v3 v4 σ) ∧ (¬ (σ.1 0 0) ≤ v5 → vp_in v5 6 ∧ (((1000000 : Int32) ≤ (σ.1 9 v5.toNatClampNeg) → vp_in (((36 : Int32) * v1) + ((6 : Int32) * v5) + v4) 108 ∧ w_X9_parted_59 f v1 (v3 + (σ.1 7 ((((36 : Int32) * v1) + ((6 : Int32) * v5) + v4).toNatClampNeg))) v4 (v5 + (1 : Int32)) σ Q K102) ∧ (¬ (1000000 : Int32) ≤ (σ.1 9 v5.toNatClampNeg) → w_X9_parted_59 f v1 (v3 + (0 : Int32)) v4 (v5 + (1 : Int32)) σ Q K102))))
theorem x_X9_parted_59 : ∀ (f : Nat) (v1 : Int32) (v3 : Int32) (v4 : Int32) (v5 : Int32) (g2 : Option Value) (σ : ds_S) (Q : Option Value → ds_S → Prop) (K102 : Int32 → Int32 → Int32 → ds_S → Prop) (hK102 : ∀ (v1 : Int32) (v3 : Int32) (v4 : Int32) (g2 : Option Value) (g5 : Option Value) (σ2 : ds_S), K102 v1 v3 v4 σ2 → ds_X mt_X9_parted Ym 102 [some (.ref 0), some (.int v1), g2, some (.int v3), some (.int v4), g5] [] σ2 Q), w_X9_parted_59 f v1 v3 v4 v5 σ Q K102 → ds_X mt_X9_parted Ym 59 [some (.ref 0), some (.int v1), g2, some (.int v3), some (.int v4), some (.int v5)] [] σ Q := by
  intro f
  induction f with
  | zero => intro v1 v3 v4 v5 g2 σ Q K102 hK102 h; exact False.elim h
  | succ f ih =>
    intro v1 v3 v4 v5 g2 σ Q K102 hK102 h
    rw [w_X9_parted_59] at h
    refine ds_blk (ls2 := [some (.ref 0), some (.int v1), g2, some (.int v3), some (.int v4), some (.int v5)]) (st2 := [.int (σ.1 0 0), .int v5]) (σ2 := σ) ok_X9_parted 32 3 59 65 [ds_k Ym 0 9] rfl rfl rfl rfl ⟨⟨by decide, rfl⟩, trivial⟩ ?_
    refine ds_ic_ge (show decode mt_X9_parted.2.1 65 = .ok (.if_icmp .ge 37, 3) from ds_dec (i := (65, .if_icmp .ge 37, 3, 0, 0, 0, .int 0)) ok_X9_parted 35 rfl) (t := 102) (by decide) (fun hc => ?_) (fun hc => ?_)
    · replace h := h.1 hc
      exact hK102 v1 v3 v4 _ _ σ h
    · replace h := h.2 hc
      obtain ⟨o1, h⟩ := h
      refine ds_blk (ls2 := [some (.ref 0), some (.int v1), g2, some (.int v3), some (.int v4), some (.int v5)]) (st2 := [.int (1000000 : Int32), .int (σ.1 9 v5.toNatClampNeg), .int v3]) (σ2 := σ) ok_X9_parted 36 6 68 78 [ds_k Ym 0 9, ds_k Ym 9 10, vp_in v5 6] rfl rfl rfl rfl ⟨⟨by decide, rfl⟩, ⟨by decide, rfl⟩, o1, trivial⟩ ?_
      refine ds_ic_ge (show decode mt_X9_parted.2.1 78 = .ok (.if_icmp .ge 7, 3) from ds_dec (i := (78, .if_icmp .ge 7, 3, 0, 0, 0, .int 0)) ok_X9_parted 42 rfl) (t := 85) (by decide) (fun hc => ?_) (fun hc => ?_)
      · replace h := h.1 hc
        refine ds_blk (ls2 := [some (.ref 0), some (.int v1), g2, some (.int v3), some (.int v4), some (.int v5)]) (st2 := [.int v4, .int v5, .int v1, .ref 0, .int v3]) (σ2 := σ) ok_X9_parted 45 4 85 91 [] rfl rfl rfl rfl trivial ?_
        obtain ⟨o2, h⟩ := h
        refine ds_callV (z := mt_X9_loadOf) (b := 0) (as := [.int v1, .int v5, .int v4]) (rest := [.int v3]) (show decode mt_X9_parted.2.1 91 = .ok (.invokevirtual 104, 3) from ds_dec (i := (91, .invokevirtual 104, 3, 0, 0, 873, .int 0)) ok_X9_parted 49 rfl) (ds_E.mono (sp_X9_loadOf v1 v5 v4 σ o2) (fun r σ1 hr => ?_)) ⟨zw_X9_loadOf.1, zw_X9_loadOf.2.1, zw_X9_loadOf.2.2, by decide, by decide⟩ (ds_wb_T (p := 873) (by decide +kernel)) zi_X9_loadOf zs_X9_loadOf (by decide) rfl ⟨_, rfl, rfl⟩ (Nat.le_of_ble_eq_true rfl)
        obtain ⟨x9, rfl, e8, e9⟩ := hr
        rw [e8, e9]
        show ds_X mt_X9_parted Ym 94 [some (.ref 0), some (.int v1), g2, some (.int v3), some (.int v4), some (.int v5)] [.int (σ.1 7 ((((36 : Int32) * v1) + ((6 : Int32) * v5) + v4).toNatClampNeg)), .int v3] σ Q
        refine ds_blk (ls2 := [some (.ref 0), some (.int v1), (ds_nl g2), some (.int (v3 + (σ.1 7 ((((36 : Int32) * v1) + ((6 : Int32) * v5) + v4).toNatClampNeg)))), some (.int v4), some (.int (v5 + (1 : Int32)))]) (st2 := []) (σ2 := σ) ok_X9_parted 50 3 94 99 [] rfl rfl rfl rfl trivial ?_
        refine ds_goto (show decode mt_X9_parted.2.1 99 = .ok (.goto (-40), 3) from ds_dec (i := (99, .goto (-40), 3, 0, 0, 0, .int 0)) ok_X9_parted 53 rfl) (t := 59) (by decide) ?_
        exact ih v1 (v3 + (σ.1 7 ((((36 : Int32) * v1) + ((6 : Int32) * v5) + v4).toNatClampNeg))) v4 (v5 + (1 : Int32)) _ σ Q K102 hK102 h
      · replace h := h.2 hc
        refine ds_blk (ls2 := [some (.ref 0), some (.int v1), g2, some (.int v3), some (.int v4), some (.int v5)]) (st2 := [.int (0 : Int32), .int v3]) (σ2 := σ) ok_X9_parted 43 1 81 82 [] rfl rfl rfl rfl trivial ?_
        refine ds_goto (show decode mt_X9_parted.2.1 82 = .ok (.goto 12, 3) from ds_dec (i := (82, .goto 12, 3, 0, 0, 0, .int 0)) ok_X9_parted 44 rfl) (t := 94) (by decide) ?_
        refine ds_blk (ls2 := [some (.ref 0), some (.int v1), (ds_nl g2), some (.int (v3 + (0 : Int32))), some (.int v4), some (.int (v5 + (1 : Int32)))]) (st2 := []) (σ2 := σ) ok_X9_parted 50 3 94 99 [] rfl rfl rfl rfl trivial ?_
        refine ds_goto (show decode mt_X9_parted.2.1 99 = .ok (.goto (-40), 3) from ds_dec (i := (99, .goto (-40), 3, 0, 0, 0, .int 0)) ok_X9_parted 53 rfl) (t := 59) (by decide) ?_
        exact ih v1 (v3 + (0 : Int32)) v4 (v5 + (1 : Int32)) _ σ Q K102 hK102 h
def w_X9_parted_41 : Nat → (v1 : Int32) → (v3 : Int32) → (v4 : Int32) → (σ : ds_S) → (Q : Option Value → ds_S → Prop) → Prop
  | 0, _, _, _, _, _ => False
  | f + 1, v1, v3, v4, σ, Q => (((σ.1 0 0) ≤ v4 → Q (some (.int v3)) (ds_wi σ 0 13 (-6 : Int32))) ∧ (¬ (σ.1 0 0) ≤ v4 → ds_EV mt_X9_findFar Ym [.ref 0, .int v4] σ (fun σ1 => ∃ n, w_X9_parted_59 n v1 v3 v4 (0 : Int32) σ1 Q (fun v1_2 v3_2 v4_2 σ2 => w_X9_parted_41 f v1_2 v3_2 (v4_2 + (1 : Int32)) σ2 Q))))
theorem x_X9_parted_41 : ∀ (f : Nat) (v1 : Int32) (v3 : Int32) (v4 : Int32) (g2 : Option Value) (g5 : Option Value) (σ : ds_S) (Q : Option Value → ds_S → Prop), w_X9_parted_41 f v1 v3 v4 σ Q → ds_X mt_X9_parted Ym 41 [some (.ref 0), some (.int v1), g2, some (.int v3), some (.int v4), g5] [] σ Q := by
  intro f
  induction f with
  | zero => intro v1 v3 v4 g2 g5 σ Q h; exact False.elim h
  | succ f ih =>
    intro v1 v3 v4 g2 g5 σ Q h
    rw [w_X9_parted_41] at h
    refine ds_blk (ls2 := [some (.ref 0), some (.int v1), g2, some (.int v3), some (.int v4), g5]) (st2 := [.int (σ.1 0 0), .int v4]) (σ2 := σ) ok_X9_parted 23 3 41 47 [ds_k Ym 0 9] rfl rfl rfl rfl ⟨⟨by decide, rfl⟩, trivial⟩ ?_
    refine ds_ic_ge (show decode mt_X9_parted.2.1 47 = .ok (.if_icmp .ge 61, 3) from ds_dec (i := (47, .if_icmp .ge 61, 3, 0, 0, 0, .int 0)) ok_X9_parted 26 rfl) (t := 108) (by decide) (fun hc => ?_) (fun hc => ?_)
    · replace h := h.1 hc
      refine ds_blk (ls2 := [some (.ref 0), some (.int v1), g2, some (.int v3), some (.int v4), g5]) (st2 := [.int v3]) (σ2 := (ds_wi σ 0 13 (-6 : Int32))) ok_X9_parted 56 4 108 115 [ds_k Ym 0 9] rfl rfl rfl rfl ⟨⟨by decide, rfl⟩, trivial⟩ ?_
      exact ds_iret (show decode mt_X9_parted.2.1 115 = .ok (.ireturn, 1) from ds_dec (i := (115, .ireturn, 1, 0, 0, 0, .int 0)) ok_X9_parted 60 rfl) rfl h
    · replace h := h.2 hc
      refine ds_blk (ls2 := [some (.ref 0), some (.int v1), g2, some (.int v3), some (.int v4), g5]) (st2 := [.int v4, .ref 0]) (σ2 := σ) ok_X9_parted 27 2 50 53 [] rfl rfl rfl rfl trivial ?_
      refine ds_callV (z := mt_X9_findFar) (b := 0) (as := [.int v4]) (rest := []) (show decode mt_X9_parted.2.1 53 = .ok (.invokevirtual 112, 3) from ds_dec (i := (53, .invokevirtual 112, 3, 0, 0, 881, .int 0)) ok_X9_parted 29 rfl) (ds_E.mono h (fun r σ1 hr => ?_)) ⟨zw_X9_findFar.1, zw_X9_findFar.2.1, zw_X9_findFar.2.2, by decide, by decide⟩ (ds_wb_T (p := 881) (by decide +kernel)) zi_X9_findFar zs_X9_findFar (by decide) rfl ⟨_, rfl, rfl⟩ (Nat.le_of_ble_eq_true rfl)
      obtain ⟨rfl, h⟩ := hr
      show ds_X mt_X9_parted Ym 56 [some (.ref 0), some (.int v1), g2, some (.int v3), some (.int v4), g5] [] σ1 Q
      refine ds_blk (ls2 := [some (.ref 0), some (.int v1), g2, some (.int v3), some (.int v4), some (.int (0 : Int32))]) (st2 := []) (σ2 := σ1) ok_X9_parted 30 2 56 59 [] rfl rfl rfl rfl trivial ?_
      obtain ⟨n, h⟩ := h
      refine x_X9_parted_59 n v1 v3 v4 (0 : Int32) _ σ1 Q _ ?_ h
      · intro v1_2 v3_2 v4_2 g2_2 g5_2 σ2 h
        refine ds_blk (ls2 := [some (.ref 0), some (.int v1_2), g2_2, some (.int v3_2), some (.int (v4_2 + (1 : Int32))), g5_2]) (st2 := []) (σ2 := σ2) ok_X9_parted 54 1 102 105 [] rfl rfl rfl rfl trivial ?_
        refine ds_goto (show decode mt_X9_parted.2.1 105 = .ok (.goto (-64), 3) from ds_dec (i := (105, .goto (-64), 3, 0, 0, 0, .int 0)) ok_X9_parted 55 rfl) (t := 41) (by decide) ?_
        exact ih v1_2 v3_2 (v4_2 + (1 : Int32)) _ _ σ2 Q h
def w_X9_parted_33 (v1 : Int32) (t0 : Int32) (σ : ds_S) (Q : Option Value → ds_S → Prop) : Prop := ∃ n, w_X9_parted_41 n v1 (0 : Int32) (0 : Int32) (ds_wi σ 0 13 t0) Q
theorem x_X9_parted_33 (v1 : Int32) (t0 : Int32) (g2 : Option Value) (g3 : Option Value) (g4 : Option Value) (g5 : Option Value) (σ : ds_S) (Q : Option Value → ds_S → Prop) (h : w_X9_parted_33 v1 t0 σ Q) : ds_X mt_X9_parted Ym 33 [some (.ref 0), some (.int v1), g2, g3, g4, g5] [.int t0, .ref 0] σ Q := by
  unfold w_X9_parted_33 at h
  refine ds_blk (ls2 := [some (.ref 0), some (.int v1), (ds_nl g2), some (.int (0 : Int32)), some (.int (0 : Int32)), g5]) (st2 := []) (σ2 := (ds_wi σ 0 13 t0)) ok_X9_parted 18 5 33 41 [ds_k Ym 0 9] rfl rfl rfl rfl ⟨⟨by decide, rfl⟩, trivial⟩ ?_
  obtain ⟨n, h⟩ := h
  refine x_X9_parted_41 n v1 (0 : Int32) (0 : Int32) _ _ (ds_wi σ 0 13 t0) Q h
def w_X9_parted_22 (v1 : Int32) (v2 : Int32) (σ : ds_S) (Q : Option Value → ds_S → Prop) : Prop := ((0 ≤ v2 → w_X9_parted_33 v1 v2 σ Q) ∧ (¬ 0 ≤ v2 → w_X9_parted_33 v1 (-6 : Int32) σ Q))
theorem x_X9_parted_22 (v1 : Int32) (v2 : Int32) (g3 : Option Value) (g4 : Option Value) (g5 : Option Value) (σ : ds_S) (Q : Option Value → ds_S → Prop) (h : w_X9_parted_22 v1 v2 σ Q) : ds_X mt_X9_parted Ym 22 [some (.ref 0), some (.int v1), some (.int v2), g3, g4, g5] [] σ Q := by
  unfold w_X9_parted_22 at h
  refine ds_blk (ls2 := [some (.ref 0), some (.int v1), some (.int v2), g3, g4, g5]) (st2 := [.int v2, .ref 0]) (σ2 := σ) ok_X9_parted 12 2 22 24 [] rfl rfl rfl rfl trivial ?_
  refine ds_if_ge (show decode mt_X9_parted.2.1 24 = .ok (.ifCond .ge 8, 3) from ds_dec (i := (24, .ifCond .ge 8, 3, 0, 0, 0, .int 0)) ok_X9_parted 14 rfl) (t := 32) (by decide) (fun hc => ?_) (fun hc => ?_)
  · replace h := h.1 hc
    refine ds_blk (ls2 := [some (.ref 0), some (.int v1), some (.int v2), g3, g4, g5]) (st2 := [.int v2, .ref 0]) (σ2 := σ) ok_X9_parted 17 1 32 33 [] rfl rfl rfl rfl trivial ?_
    refine x_X9_parted_33 v1 v2 _ _ _ _ σ Q h
  · replace h := h.2 hc
    refine ds_blk (ls2 := [some (.ref 0), some (.int v1), some (.int v2), g3, g4, g5]) (st2 := [.int (-6 : Int32), .ref 0]) (σ2 := σ) ok_X9_parted 15 1 27 29 [] rfl rfl rfl rfl trivial ?_
    refine ds_goto (show decode mt_X9_parted.2.1 29 = .ok (.goto 4, 3) from ds_dec (i := (29, .goto 4, 3, 0, 0, 0, .int 0)) ok_X9_parted 16 rfl) (t := 33) (by decide) ?_
    refine x_X9_parted_33 v1 (-6 : Int32) _ _ _ _ σ Q h
def w_X9_parted (a1 : Int32) (a2 : Int32) (σ : ds_S) (Q : Option Value → ds_S → Prop) : Prop := (((q_bx a1 3) = 0 → Q (some (.int (-1 : Int32))) σ) ∧ (¬ (q_bx a1 3) = 0 → ((a2 = (-1 : Int32) → w_X9_parted_22 a1 a2 σ Q) ∧ (¬ a2 = (-1 : Int32) → ((¬ (q_bx a2 (σ.1 0 7)) = 0 → w_X9_parted_22 a1 a2 σ Q) ∧ ((q_bx a2 (σ.1 0 7)) = 0 → Q (some (.int (-1 : Int32))) σ))))))
theorem e_X9_parted (a1 : Int32) (a2 : Int32) (σ : ds_S) (Q : Option Value → ds_S → Prop) (h : w_X9_parted a1 a2 σ Q) : ds_E mt_X9_parted Ym [.ref 0, .int a1, .int a2] σ Q := by
  refine ds_enter (by decide) (Nat.le_of_ble_eq_true rfl) ?_
  show ds_X mt_X9_parted Ym 0 [some (.ref 0), some (.int a1), some (.int a2), none, none, none] [] σ Q
  unfold w_X9_parted at h
  refine ds_blk (ls2 := [some (.ref 0), some (.int a1), some (.int a2), none, none, none]) (st2 := [.int a1]) (σ2 := σ) ok_X9_parted 0 1 0 1 [] rfl rfl rfl rfl trivial ?_
  refine ds_callS (z := mt_X9_isTable) (as := [.int a1]) (rest := []) (show decode mt_X9_parted.2.1 1 = .ok (.invokestatic 99, 3) from ds_dec (i := (1, .invokestatic 99, 3, 0, 0, 869, .int 0)) ok_X9_parted 1 rfl) (ds_E.mono (sp_X9_isTable a1 σ ) (fun r σ1 hr => ?_)) ⟨zw_X9_isTable.1, zw_X9_isTable.2.1, zw_X9_isTable.2.2, by decide, by decide⟩ (ds_wb_T (p := 869) (by decide +kernel)) zt_X9_isTable (Nat.le_of_ble_eq_true rfl)
  obtain ⟨x9, rfl, e8, e9⟩ := hr
  rw [e8, e9]
  show ds_X mt_X9_parted Ym 4 [some (.ref 0), some (.int a1), some (.int a2), none, none, none] [.int (q_bx a1 3)] σ Q
  refine ds_if_eq (show decode mt_X9_parted.2.1 4 = .ok (.ifCond .eq 16, 3) from ds_dec (i := (4, .ifCond .eq 16, 3, 0, 0, 0, .int 0)) ok_X9_parted 2 rfl) (t := 20) (by decide) (fun hc => ?_) (fun hc => ?_)
  · replace h := h.1 hc
    refine ds_blk (ls2 := [some (.ref 0), some (.int a1), some (.int a2), none, none, none]) (st2 := [.int (-1 : Int32)]) (σ2 := σ) ok_X9_parted 10 1 20 21 [] rfl rfl rfl rfl trivial ?_
    exact ds_iret (show decode mt_X9_parted.2.1 21 = .ok (.ireturn, 1) from ds_dec (i := (21, .ireturn, 1, 0, 0, 0, .int 0)) ok_X9_parted 11 rfl) rfl h
  · replace h := h.2 hc
    refine ds_blk (ls2 := [some (.ref 0), some (.int a1), some (.int a2), none, none, none]) (st2 := [.int (-1 : Int32), .int a2]) (σ2 := σ) ok_X9_parted 3 2 7 9 [] rfl rfl rfl rfl trivial ?_
    refine ds_ic_eq (show decode mt_X9_parted.2.1 9 = .ok (.if_icmp .eq 13, 3) from ds_dec (i := (9, .if_icmp .eq 13, 3, 0, 0, 0, .int 0)) ok_X9_parted 5 rfl) (t := 22) (by decide) (fun hc => ?_) (fun hc => ?_)
    · replace h := h.1 hc
      refine x_X9_parted_22 a1 a2 _ _ _ σ Q h
    · replace h := h.2 hc
      refine ds_blk (ls2 := [some (.ref 0), some (.int a1), some (.int a2), none, none, none]) (st2 := [.int a2, .ref 0]) (σ2 := σ) ok_X9_parted 6 2 12 14 [] rfl rfl rfl rfl trivial ?_
      refine ds_callV (z := mt_X9_isLine) (b := 0) (as := [.int a2]) (rest := []) (show decode mt_X9_parted.2.1 14 = .ok (.invokevirtual 96, 3) from ds_dec (i := (14, .invokevirtual 96, 3, 0, 0, 853, .int 0)) ok_X9_parted 8 rfl) (ds_E.mono (sp_X9_isLine a2 σ ) (fun r σ2 hr => ?_)) ⟨zw_X9_isLine.1, zw_X9_isLine.2.1, zw_X9_isLine.2.2, by decide, by decide⟩ (ds_wb_T (p := 853) (by decide +kernel)) zi_X9_isLine zs_X9_isLine (by decide) rfl ⟨_, rfl, rfl⟩ (Nat.le_of_ble_eq_true rfl)
      obtain ⟨x9, rfl, e8, e9⟩ := hr
      rw [e8, e9]
      show ds_X mt_X9_parted Ym 17 [some (.ref 0), some (.int a1), some (.int a2), none, none, none] [.int (q_bx a2 (σ.1 0 7))] σ Q
      refine ds_if_ne (show decode mt_X9_parted.2.1 17 = .ok (.ifCond .ne 5, 3) from ds_dec (i := (17, .ifCond .ne 5, 3, 0, 0, 0, .int 0)) ok_X9_parted 9 rfl) (t := 22) (by decide) (fun hc => ?_) (fun hc => ?_)
      · replace h := h.1 hc
        refine x_X9_parted_22 a1 a2 _ _ _ σ Q h
      · replace h := h.2 hc
        refine ds_blk (ls2 := [some (.ref 0), some (.int a1), some (.int a2), none, none, none]) (st2 := [.int (-1 : Int32)]) (σ2 := σ) ok_X9_parted 10 1 20 21 [] rfl rfl rfl rfl trivial ?_
        exact ds_iret (show decode mt_X9_parted.2.1 21 = .ok (.ireturn, 1) from ds_dec (i := (21, .ireturn, 1, 0, 0, 0, .int 0)) ok_X9_parted 11 rfl) rfl h
def w_X9_who_55 : Nat → (v1 : Int32) → (v2 : Int32) → (v3 : Int32) → (v4 : Int32) → (v5 : Int64) → (v7 : Int64) → (v9 : Int32) → (v10 : Int32) → (σ : ds_S) → (Q : Option Value → ds_S → Prop) → (K158 : Int32 → Int32 → Int32 → Int32 → Int64 → Int64 → Int32 → ds_S → Prop) → Prop
  | 0, _, _, _, _, _, _, _, _, _, _, _ => False
  | f + 1, v1, v2, v3, v4, v5, v7, v9, v10, σ, Q, K158 => (((σ.1 0 0) ≤ v10 → K158 v1 v2 v3 v4 v5 v7 v9 σ) ∧ (¬ (σ.1 0 0) ≤ v10 → ((v9 = v10 → w_X9_who_55 f v1 v2 v3 v4 v5 v7 v9 (v10 + (1 : Int32)) σ Q K158) ∧ (¬ v9 = v10 → vp_in (((36 : Int32) * v1) + ((6 : Int32) * v9) + v10) 108 ∧ (((σ.1 7 ((((36 : Int32) * v1) + ((6 : Int32) * v9) + v10).toNatClampNeg)) ≤ 0 → w_X9_who_55 f v1 v2 v3 v4 v5 v7 v9 (v10 + (1 : Int32)) σ Q K158) ∧ (¬ (σ.1 7 ((((36 : Int32) * v1) + ((6 : Int32) * v9) + v10).toNatClampNeg)) ≤ 0 → vp_in (((36 : Int32) * v1) + ((6 : Int32) * v9) + v10) 108 ∧ ds_EL mt_X9_share Ym [.ref 0, .int v9, .int v10, .int v2, .int v3, .int (0 : Int32)] σ (fun r3 σ3 => ds_EL mt_X9_share Ym [.ref 0, .int v9, .int v10, .int v2, .int v3, .int (1 : Int32)] σ3 (fun r4 σ4 => (((lg_cmp (((σ.1 7 ((((36 : Int32) * v1) + ((6 : Int32) * v9) + v10).toNatClampNeg)).toInt64 * r3) * v7) (v5 * r4)) ≤ 0 → w_X9_who_55 f v1 v2 v3 v4 v5 v7 v9 (v10 + (1 : Int32)) σ4 Q K158) ∧ (¬ (lg_cmp (((σ.1 7 ((((36 : Int32) * v1) + ((6 : Int32) * v9) + v10).toNatClampNeg)).toInt64 * r3) * v7) (v5 * r4)) ≤ 0 → w_X9_who_55 f v1 v2 v3 (((10 : Int32) * v9) + v10) ((σ.1 7 ((((36 : Int32) * v1) + ((6 : Int32) * v9) + v10).toNatClampNeg)).toInt64 * r3) r4 v9 (v10 + (1 : Int32)) σ4 Q K158))))))))))
theorem x_X9_who_55 : ∀ (f : Nat) (v1 : Int32) (v2 : Int32) (v3 : Int32) (v4 : Int32) (v5 : Int64) (v7 : Int64) (v9 : Int32) (v10 : Int32) (g6 : Option Value) (g8 : Option Value) (g11 : Option Value) (g12 : Option Value) (g13 : Option Value) (g14 : Option Value) (σ : ds_S) (Q : Option Value → ds_S → Prop) (K158 : Int32 → Int32 → Int32 → Int32 → Int64 → Int64 → Int32 → ds_S → Prop) (hK158 : ∀ (v1 : Int32) (v2 : Int32) (v3 : Int32) (v4 : Int32) (v5 : Int64) (v7 : Int64) (v9 : Int32) (g6 : Option Value) (g8 : Option Value) (g10 : Option Value) (g11 : Option Value) (g12 : Option Value) (g13 : Option Value) (g14 : Option Value) (σ2 : ds_S), K158 v1 v2 v3 v4 v5 v7 v9 σ2 → ds_X mt_X9_who Ym 158 [some (.ref 0), some (.int v1), some (.int v2), some (.int v3), some (.int v4), some (.long v5), g6, some (.long v7), g8, some (.int v9), g10, g11, g12, g13, g14] [] σ2 Q), w_X9_who_55 f v1 v2 v3 v4 v5 v7 v9 v10 σ Q K158 → ds_X mt_X9_who Ym 55 [some (.ref 0), some (.int v1), some (.int v2), some (.int v3), some (.int v4), some (.long v5), g6, some (.long v7), g8, some (.int v9), some (.int v10), g11, g12, g13, g14] [] σ Q := by
  intro f
  induction f with
  | zero => intro v1 v2 v3 v4 v5 v7 v9 v10 g6 g8 g11 g12 g13 g14 σ Q K158 hK158 h; exact False.elim h
  | succ f ih =>
    intro v1 v2 v3 v4 v5 v7 v9 v10 g6 g8 g11 g12 g13 g14 σ Q K158 hK158 h
    rw [w_X9_who_55] at h
    refine ds_blk (ls2 := [some (.ref 0), some (.int v1), some (.int v2), some (.int v3), some (.int v4), some (.long v5), g6, some (.long v7), g8, some (.int v9), some (.int v10), g11, g12, g13, g14]) (st2 := [.int (σ.1 0 0), .int v10]) (σ2 := σ) ok_X9_who 31 3 55 61 [ds_k Ym 0 9] rfl rfl rfl rfl ⟨⟨by decide, rfl⟩, trivial⟩ ?_
    refine ds_ic_ge (show decode mt_X9_who.2.1 61 = .ok (.if_icmp .ge 97, 3) from ds_dec (i := (61, .if_icmp .ge 97, 3, 0, 0, 0, .int 0)) ok_X9_who 34 rfl) (t := 158) (by decide) (fun hc => ?_) (fun hc => ?_)
    · replace h := h.1 hc
      exact hK158 v1 v2 v3 v4 v5 v7 v9 _ _ _ _ _ _ _ σ h
    · replace h := h.2 hc
      refine ds_blk (ls2 := [some (.ref 0), some (.int v1), some (.int v2), some (.int v3), some (.int v4), some (.long v5), g6, some (.long v7), g8, some (.int v9), some (.int v10), g11, g12, g13, g14]) (st2 := [.int v10, .int v9]) (σ2 := σ) ok_X9_who 35 2 64 68 [] rfl rfl rfl rfl trivial ?_
      refine ds_ic_eq (show decode mt_X9_who.2.1 68 = .ok (.if_icmp .eq 84, 3) from ds_dec (i := (68, .if_icmp .eq 84, 3, 0, 0, 0, .int 0)) ok_X9_who 37 rfl) (t := 152) (by decide) (fun hc => ?_) (fun hc => ?_)
      · replace h := h.1 hc
        refine ds_blk (ls2 := [some (.ref 0), some (.int v1), some (.int v2), some (.int v3), some (.int v4), some (.long v5), g6, some (.long v7), g8, some (.int v9), some (.int (v10 + (1 : Int32))), g11, g12, g13, g14]) (st2 := []) (σ2 := σ) ok_X9_who 85 1 152 155 [] rfl rfl rfl rfl trivial ?_
        refine ds_goto (show decode mt_X9_who.2.1 155 = .ok (.goto (-100), 3) from ds_dec (i := (155, .goto (-100), 3, 0, 0, 0, .int 0)) ok_X9_who 86 rfl) (t := 55) (by decide) ?_
        exact ih v1 v2 v3 v4 v5 v7 v9 (v10 + (1 : Int32)) _ _ _ _ _ _ σ Q K158 hK158 h
      · replace h := h.2 hc
        refine ds_blk (ls2 := [some (.ref 0), some (.int v1), some (.int v2), some (.int v3), some (.int v4), some (.long v5), g6, some (.long v7), g8, some (.int v9), some (.int v10), g11, g12, g13, g14]) (st2 := [.int v10, .int v9, .int v1, .ref 0]) (σ2 := σ) ok_X9_who 38 4 71 77 [] rfl rfl rfl rfl trivial ?_
        obtain ⟨o1, h⟩ := h
        refine ds_callV (z := mt_X9_loadOf) (b := 0) (as := [.int v1, .int v9, .int v10]) (rest := []) (show decode mt_X9_who.2.1 77 = .ok (.invokevirtual 104, 3) from ds_dec (i := (77, .invokevirtual 104, 3, 0, 0, 873, .int 0)) ok_X9_who 42 rfl) (ds_E.mono (sp_X9_loadOf v1 v9 v10 σ o1) (fun r σ1 hr => ?_)) ⟨zw_X9_loadOf.1, zw_X9_loadOf.2.1, zw_X9_loadOf.2.2, by decide, by decide⟩ (ds_wb_T (p := 873) (by decide +kernel)) zi_X9_loadOf zs_X9_loadOf (by decide) rfl ⟨_, rfl, rfl⟩ (Nat.le_of_ble_eq_true rfl)
        obtain ⟨x9, rfl, e8, e9⟩ := hr
        rw [e8, e9]
        show ds_X mt_X9_who Ym 80 [some (.ref 0), some (.int v1), some (.int v2), some (.int v3), some (.int v4), some (.long v5), g6, some (.long v7), g8, some (.int v9), some (.int v10), g11, g12, g13, g14] [.int (σ.1 7 ((((36 : Int32) * v1) + ((6 : Int32) * v9) + v10).toNatClampNeg))] σ Q
        refine ds_if_le (show decode mt_X9_who.2.1 80 = .ok (.ifCond .le 72, 3) from ds_dec (i := (80, .ifCond .le 72, 3, 0, 0, 0, .int 0)) ok_X9_who 43 rfl) (t := 152) (by decide) (fun hc => ?_) (fun hc => ?_)
        · replace h := h.1 hc
          refine ds_blk (ls2 := [some (.ref 0), some (.int v1), some (.int v2), some (.int v3), some (.int v4), some (.long v5), g6, some (.long v7), g8, some (.int v9), some (.int (v10 + (1 : Int32))), g11, g12, g13, g14]) (st2 := []) (σ2 := σ) ok_X9_who 85 1 152 155 [] rfl rfl rfl rfl trivial ?_
          refine ds_goto (show decode mt_X9_who.2.1 155 = .ok (.goto (-100), 3) from ds_dec (i := (155, .goto (-100), 3, 0, 0, 0, .int 0)) ok_X9_who 86 rfl) (t := 55) (by decide) ?_
          exact ih v1 v2 v3 v4 v5 v7 v9 (v10 + (1 : Int32)) _ _ _ _ _ _ σ Q K158 hK158 h
        · replace h := h.2 hc
          refine ds_blk (ls2 := [some (.ref 0), some (.int v1), some (.int v2), some (.int v3), some (.int v4), some (.long v5), g6, some (.long v7), g8, some (.int v9), some (.int v10), g11, g12, g13, g14]) (st2 := [.int v10, .int v9, .int v1, .ref 0]) (σ2 := σ) ok_X9_who 44 4 83 89 [] rfl rfl rfl rfl trivial ?_
          obtain ⟨o2, h⟩ := h
          refine ds_callV (z := mt_X9_loadOf) (b := 0) (as := [.int v1, .int v9, .int v10]) (rest := []) (show decode mt_X9_who.2.1 89 = .ok (.invokevirtual 104, 3) from ds_dec (i := (89, .invokevirtual 104, 3, 0, 0, 873, .int 0)) ok_X9_who 48 rfl) (ds_E.mono (sp_X9_loadOf v1 v9 v10 σ o2) (fun r σ2 hr => ?_)) ⟨zw_X9_loadOf.1, zw_X9_loadOf.2.1, zw_X9_loadOf.2.2, by decide, by decide⟩ (ds_wb_T (p := 873) (by decide +kernel)) zi_X9_loadOf zs_X9_loadOf (by decide) rfl ⟨_, rfl, rfl⟩ (Nat.le_of_ble_eq_true rfl)
          obtain ⟨x9, rfl, e8, e9⟩ := hr
          rw [e8, e9]
          show ds_X mt_X9_who Ym 92 [some (.ref 0), some (.int v1), some (.int v2), some (.int v3), some (.int v4), some (.long v5), g6, some (.long v7), g8, some (.int v9), some (.int v10), g11, g12, g13, g14] [.int (σ.1 7 ((((36 : Int32) * v1) + ((6 : Int32) * v9) + v10).toNatClampNeg))] σ Q
          refine ds_blk (ls2 := [some (.ref 0), some (.int v1), some (.int v2), some (.int v3), some (.int v4), some (.long v5), g6, some (.long v7), g8, some (.int v9), some (.int v10), g11, g12, g13, g14]) (st2 := [.int (0 : Int32), .int v3, .int v2, .int v10, .int v9, .ref 0, .long ((σ.1 7 ((((36 : Int32) * v1) + ((6 : Int32) * v9) + v10).toNatClampNeg)).toInt64)]) (σ2 := σ) ok_X9_who 49 7 92 101 [] rfl rfl rfl rfl trivial ?_
          refine ds_callV (z := mt_X9_share) (b := 0) (as := [.int v9, .int v10, .int v2, .int v3, .int (0 : Int32)]) (rest := [.long ((σ.1 7 ((((36 : Int32) * v1) + ((6 : Int32) * v9) + v10).toNatClampNeg)).toInt64)]) (show decode mt_X9_who.2.1 101 = .ok (.invokevirtual 190, 3) from ds_dec (i := (101, .invokevirtual 190, 3, 0, 0, 966, .int 0)) ok_X9_who 56 rfl) (ds_E.mono h (fun r σ3 hr => ?_)) ⟨zw_X9_share.1, zw_X9_share.2.1, zw_X9_share.2.2, by decide, by decide⟩ (ds_wb_T (p := 966) (by decide +kernel)) zi_X9_share zs_X9_share (by decide) rfl ⟨_, rfl, rfl⟩ (Nat.le_of_ble_eq_true rfl)
          obtain ⟨r3, rfl, h⟩ := hr
          show ds_X mt_X9_who Ym 104 [some (.ref 0), some (.int v1), some (.int v2), some (.int v3), some (.int v4), some (.long v5), g6, some (.long v7), g8, some (.int v9), some (.int v10), g11, g12, g13, g14] [.long r3, .long ((σ.1 7 ((((36 : Int32) * v1) + ((6 : Int32) * v9) + v10).toNatClampNeg)).toInt64)] σ3 Q
          refine ds_blk (ls2 := [some (.ref 0), some (.int v1), some (.int v2), some (.int v3), some (.int v4), some (.long v5), g6, some (.long v7), g8, some (.int v9), some (.int v10), some (.long ((σ.1 7 ((((36 : Int32) * v1) + ((6 : Int32) * v9) + v10).toNatClampNeg)).toInt64 * r3)), none, g13, g14]) (st2 := [.int (1 : Int32), .int v3, .int v2, .int v10, .int v9, .ref 0]) (σ2 := σ3) ok_X9_who 57 8 104 115 [] rfl rfl rfl rfl trivial ?_
          refine ds_callV (z := mt_X9_share) (b := 0) (as := [.int v9, .int v10, .int v2, .int v3, .int (1 : Int32)]) (rest := []) (show decode mt_X9_who.2.1 115 = .ok (.invokevirtual 190, 3) from ds_dec (i := (115, .invokevirtual 190, 3, 0, 0, 966, .int 0)) ok_X9_who 65 rfl) (ds_E.mono h (fun r σ4 hr => ?_)) ⟨zw_X9_share.1, zw_X9_share.2.1, zw_X9_share.2.2, by decide, by decide⟩ (ds_wb_T (p := 966) (by decide +kernel)) zi_X9_share zs_X9_share (by decide) rfl ⟨_, rfl, rfl⟩ (Nat.le_of_ble_eq_true rfl)
          obtain ⟨r4, rfl, h⟩ := hr
          show ds_X mt_X9_who Ym 118 [some (.ref 0), some (.int v1), some (.int v2), some (.int v3), some (.int v4), some (.long v5), g6, some (.long v7), g8, some (.int v9), some (.int v10), some (.long ((σ.1 7 ((((36 : Int32) * v1) + ((6 : Int32) * v9) + v10).toNatClampNeg)).toInt64 * r3)), none, g13, g14] [.long r4] σ4 Q
          refine ds_blk (ls2 := [some (.ref 0), some (.int v1), some (.int v2), some (.int v3), some (.int v4), some (.long v5), g6, some (.long v7), g8, some (.int v9), some (.int v10), some (.long ((σ.1 7 ((((36 : Int32) * v1) + ((6 : Int32) * v9) + v10).toNatClampNeg)).toInt64 * r3)), none, some (.long r4), none]) (st2 := [.int (lg_cmp (((σ.1 7 ((((36 : Int32) * v1) + ((6 : Int32) * v9) + v10).toNatClampNeg)).toInt64 * r3) * v7) (v5 * r4))]) (σ2 := σ4) ok_X9_who 66 8 118 131 [] rfl rfl rfl rfl trivial ?_
          refine ds_if_le (show decode mt_X9_who.2.1 131 = .ok (.ifCond .le 21, 3) from ds_dec (i := (131, .ifCond .le 21, 3, 0, 0, 0, .int 0)) ok_X9_who 74 rfl) (t := 152) (by decide) (fun hc => ?_) (fun hc => ?_)
          · replace h := h.1 hc
            refine ds_blk (ls2 := [some (.ref 0), some (.int v1), some (.int v2), some (.int v3), some (.int v4), some (.long v5), g6, some (.long v7), g8, some (.int v9), some (.int (v10 + (1 : Int32))), some (.long ((σ.1 7 ((((36 : Int32) * v1) + ((6 : Int32) * v9) + v10).toNatClampNeg)).toInt64 * r3)), none, some (.long r4), none]) (st2 := []) (σ2 := σ4) ok_X9_who 85 1 152 155 [] rfl rfl rfl rfl trivial ?_
            refine ds_goto (show decode mt_X9_who.2.1 155 = .ok (.goto (-100), 3) from ds_dec (i := (155, .goto (-100), 3, 0, 0, 0, .int 0)) ok_X9_who 86 rfl) (t := 55) (by decide) ?_
            exact ih v1 v2 v3 v4 v5 v7 v9 (v10 + (1 : Int32)) _ _ _ _ _ _ σ4 Q K158 hK158 h
          · replace h := h.2 hc
            refine ds_blk (ls2 := [some (.ref 0), some (.int v1), some (.int v2), some (.int v3), some (.int (((10 : Int32) * v9) + v10)), some (.long ((σ.1 7 ((((36 : Int32) * v1) + ((6 : Int32) * v9) + v10).toNatClampNeg)).toInt64 * r3)), none, some (.long r4), none, some (.int v9), some (.int (v10 + (1 : Int32))), some (.long ((σ.1 7 ((((36 : Int32) * v1) + ((6 : Int32) * v9) + v10).toNatClampNeg)).toInt64 * r3)), none, some (.long r4), none]) (st2 := []) (σ2 := σ4) ok_X9_who 75 11 134 155 [] rfl rfl rfl rfl trivial ?_
            refine ds_goto (show decode mt_X9_who.2.1 155 = .ok (.goto (-100), 3) from ds_dec (i := (155, .goto (-100), 3, 0, 0, 0, .int 0)) ok_X9_who 86 rfl) (t := 55) (by decide) ?_
            exact ih v1 v2 v3 (((10 : Int32) * v9) + v10) ((σ.1 7 ((((36 : Int32) * v1) + ((6 : Int32) * v9) + v10).toNatClampNeg)).toInt64 * r3) r4 v9 (v10 + (1 : Int32)) _ _ _ _ _ _ σ4 Q K158 hK158 h
def w_X9_who_43 : Nat → (v1 : Int32) → (v2 : Int32) → (v3 : Int32) → (v4 : Int32) → (v5 : Int64) → (v7 : Int64) → (v9 : Int32) → (σ : ds_S) → (Q : Option Value → ds_S → Prop) → Prop
  | 0, _, _, _, _, _, _, _, _, _ => False
  | f + 1, v1, v2, v3, v4, v5, v7, v9, σ, Q => (((σ.1 0 0) ≤ v9 → Q (some (.int v4)) σ) ∧ (¬ (σ.1 0 0) ≤ v9 → ∃ n, w_X9_who_55 n v1 v2 v3 v4 v5 v7 v9 (0 : Int32) σ Q (fun v1_1 v2_1 v3_1 v4_1 v5_1 v7_1 v9_1 σ1 => w_X9_who_43 f v1_1 v2_1 v3_1 v4_1 v5_1 v7_1 (v9_1 + (1 : Int32)) σ1 Q)))
theorem x_X9_who_43 : ∀ (f : Nat) (v1 : Int32) (v2 : Int32) (v3 : Int32) (v4 : Int32) (v5 : Int64) (v7 : Int64) (v9 : Int32) (g6 : Option Value) (g8 : Option Value) (g10 : Option Value) (g11 : Option Value) (g12 : Option Value) (g13 : Option Value) (g14 : Option Value) (σ : ds_S) (Q : Option Value → ds_S → Prop), w_X9_who_43 f v1 v2 v3 v4 v5 v7 v9 σ Q → ds_X mt_X9_who Ym 43 [some (.ref 0), some (.int v1), some (.int v2), some (.int v3), some (.int v4), some (.long v5), g6, some (.long v7), g8, some (.int v9), g10, g11, g12, g13, g14] [] σ Q := by
  intro f
  induction f with
  | zero => intro v1 v2 v3 v4 v5 v7 v9 g6 g8 g10 g11 g12 g13 g14 σ Q h; exact False.elim h
  | succ f ih =>
    intro v1 v2 v3 v4 v5 v7 v9 g6 g8 g10 g11 g12 g13 g14 σ Q h
    rw [w_X9_who_43] at h
    refine ds_blk (ls2 := [some (.ref 0), some (.int v1), some (.int v2), some (.int v3), some (.int v4), some (.long v5), g6, some (.long v7), g8, some (.int v9), g10, g11, g12, g13, g14]) (st2 := [.int (σ.1 0 0), .int v9]) (σ2 := σ) ok_X9_who 25 3 43 49 [ds_k Ym 0 9] rfl rfl rfl rfl ⟨⟨by decide, rfl⟩, trivial⟩ ?_
    refine ds_ic_ge (show decode mt_X9_who.2.1 49 = .ok (.if_icmp .ge 115, 3) from ds_dec (i := (49, .if_icmp .ge 115, 3, 0, 0, 0, .int 0)) ok_X9_who 28 rfl) (t := 164) (by decide) (fun hc => ?_) (fun hc => ?_)
    · replace h := h.1 hc
      refine ds_blk (ls2 := [some (.ref 0), some (.int v1), some (.int v2), some (.int v3), some (.int v4), some (.long v5), g6, some (.long v7), g8, some (.int v9), g10, g11, g12, g13, g14]) (st2 := [.int v4]) (σ2 := σ) ok_X9_who 89 1 164 166 [] rfl rfl rfl rfl trivial ?_
      exact ds_iret (show decode mt_X9_who.2.1 166 = .ok (.ireturn, 1) from ds_dec (i := (166, .ireturn, 1, 0, 0, 0, .int 0)) ok_X9_who 90 rfl) rfl h
    · replace h := h.2 hc
      refine ds_blk (ls2 := [some (.ref 0), some (.int v1), some (.int v2), some (.int v3), some (.int v4), some (.long v5), g6, some (.long v7), g8, some (.int v9), some (.int (0 : Int32)), g11, g12, g13, g14]) (st2 := []) (σ2 := σ) ok_X9_who 29 2 52 55 [] rfl rfl rfl rfl trivial ?_
      obtain ⟨n, h⟩ := h
      refine x_X9_who_55 n v1 v2 v3 v4 v5 v7 v9 (0 : Int32) _ _ _ _ _ _ σ Q _ ?_ h
      · intro v1_1 v2_1 v3_1 v4_1 v5_1 v7_1 v9_1 g6_1 g8_1 g10_1 g11_1 g12_1 g13_1 g14_1 σ1 h
        refine ds_blk (ls2 := [some (.ref 0), some (.int v1_1), some (.int v2_1), some (.int v3_1), some (.int v4_1), some (.long v5_1), g6_1, some (.long v7_1), (ds_nl g8_1), some (.int (v9_1 + (1 : Int32))), g10_1, g11_1, g12_1, g13_1, g14_1]) (st2 := []) (σ2 := σ1) ok_X9_who 87 1 158 161 [] rfl rfl rfl rfl trivial ?_
        refine ds_goto (show decode mt_X9_who.2.1 161 = .ok (.goto (-118), 3) from ds_dec (i := (161, .goto (-118), 3, 0, 0, 0, .int 0)) ok_X9_who 88 rfl) (t := 43) (by decide) ?_
        exact ih v1_1 v2_1 v3_1 v4_1 v5_1 v7_1 (v9_1 + (1 : Int32)) _ _ _ _ _ _ _ σ1 Q h
def w_X9_who (a1 : Int32) (a2 : Int32) (a3 : Int32) (σ : ds_S) (Q : Option Value → ds_S → Prop) : Prop := (((q_bx a1 3) = 0 → Q (some (.int (-1 : Int32))) σ) ∧ (¬ (q_bx a1 3) = 0 → ((¬ (q_bx a2 (σ.1 0 7)) = 0 → ((¬ (q_in a3.toInt64 (0 : Int64) (1 : Int64)) = 0 → ∃ n, w_X9_who_43 n a1 a2 a3 (-6 : Int32) (0 : Int64) (1 : Int64) (0 : Int32) σ Q) ∧ ((q_in a3.toInt64 (0 : Int64) (1 : Int64)) = 0 → Q (some (.int (-2 : Int32))) σ))) ∧ ((q_bx a2 (σ.1 0 7)) = 0 → Q (some (.int (-1 : Int32))) σ))))
theorem e_X9_who (a1 : Int32) (a2 : Int32) (a3 : Int32) (σ : ds_S) (Q : Option Value → ds_S → Prop) (h : w_X9_who a1 a2 a3 σ Q) : ds_E mt_X9_who Ym [.ref 0, .int a1, .int a2, .int a3] σ Q := by
  refine ds_enter (by decide) (Nat.le_of_ble_eq_true rfl) ?_
  show ds_X mt_X9_who Ym 0 [some (.ref 0), some (.int a1), some (.int a2), some (.int a3), none, none, none, none, none, none, none, none, none, none, none] [] σ Q
  unfold w_X9_who at h
  refine ds_blk (ls2 := [some (.ref 0), some (.int a1), some (.int a2), some (.int a3), none, none, none, none, none, none, none, none, none, none, none]) (st2 := [.int a1]) (σ2 := σ) ok_X9_who 0 1 0 1 [] rfl rfl rfl rfl trivial ?_
  refine ds_callS (z := mt_X9_isTable) (as := [.int a1]) (rest := []) (show decode mt_X9_who.2.1 1 = .ok (.invokestatic 99, 3) from ds_dec (i := (1, .invokestatic 99, 3, 0, 0, 869, .int 0)) ok_X9_who 1 rfl) (ds_E.mono (sp_X9_isTable a1 σ ) (fun r σ1 hr => ?_)) ⟨zw_X9_isTable.1, zw_X9_isTable.2.1, zw_X9_isTable.2.2, by decide, by decide⟩ (ds_wb_T (p := 869) (by decide +kernel)) zt_X9_isTable (Nat.le_of_ble_eq_true rfl)
  obtain ⟨x9, rfl, e8, e9⟩ := hr
  rw [e8, e9]
  show ds_X mt_X9_who Ym 4 [some (.ref 0), some (.int a1), some (.int a2), some (.int a3), none, none, none, none, none, none, none, none, none, none, none] [.int (q_bx a1 3)] σ Q
  refine ds_if_eq (show decode mt_X9_who.2.1 4 = .ok (.ifCond .eq 11, 3) from ds_dec (i := (4, .ifCond .eq 11, 3, 0, 0, 0, .int 0)) ok_X9_who 2 rfl) (t := 15) (by decide) (fun hc => ?_) (fun hc => ?_)
  · replace h := h.1 hc
    refine ds_blk (ls2 := [some (.ref 0), some (.int a1), some (.int a2), some (.int a3), none, none, none, none, none, none, none, none, none, none, none]) (st2 := [.int (-1 : Int32)]) (σ2 := σ) ok_X9_who 7 1 15 16 [] rfl rfl rfl rfl trivial ?_
    exact ds_iret (show decode mt_X9_who.2.1 16 = .ok (.ireturn, 1) from ds_dec (i := (16, .ireturn, 1, 0, 0, 0, .int 0)) ok_X9_who 8 rfl) rfl h
  · replace h := h.2 hc
    refine ds_blk (ls2 := [some (.ref 0), some (.int a1), some (.int a2), some (.int a3), none, none, none, none, none, none, none, none, none, none, none]) (st2 := [.int a2, .ref 0]) (σ2 := σ) ok_X9_who 3 2 7 9 [] rfl rfl rfl rfl trivial ?_
    refine ds_callV (z := mt_X9_isLine) (b := 0) (as := [.int a2]) (rest := []) (show decode mt_X9_who.2.1 9 = .ok (.invokevirtual 96, 3) from ds_dec (i := (9, .invokevirtual 96, 3, 0, 0, 853, .int 0)) ok_X9_who 5 rfl) (ds_E.mono (sp_X9_isLine a2 σ ) (fun r σ2 hr => ?_)) ⟨zw_X9_isLine.1, zw_X9_isLine.2.1, zw_X9_isLine.2.2, by decide, by decide⟩ (ds_wb_T (p := 853) (by decide +kernel)) zi_X9_isLine zs_X9_isLine (by decide) rfl ⟨_, rfl, rfl⟩ (Nat.le_of_ble_eq_true rfl)
    obtain ⟨x9, rfl, e8, e9⟩ := hr
    rw [e8, e9]
    show ds_X mt_X9_who Ym 12 [some (.ref 0), some (.int a1), some (.int a2), some (.int a3), none, none, none, none, none, none, none, none, none, none, none] [.int (q_bx a2 (σ.1 0 7))] σ Q
    refine ds_if_ne (show decode mt_X9_who.2.1 12 = .ok (.ifCond .ne 5, 3) from ds_dec (i := (12, .ifCond .ne 5, 3, 0, 0, 0, .int 0)) ok_X9_who 6 rfl) (t := 17) (by decide) (fun hc => ?_) (fun hc => ?_)
    · replace h := h.1 hc
      refine ds_blk (ls2 := [some (.ref 0), some (.int a1), some (.int a2), some (.int a3), none, none, none, none, none, none, none, none, none, none, none]) (st2 := [.long (1 : Int64), .long (0 : Int64), .long a3.toInt64]) (σ2 := σ) ok_X9_who 9 4 17 21 [] rfl rfl rfl rfl trivial ?_
      refine ds_callS (z := mt_X9_in) (as := [.long a3.toInt64, .long (0 : Int64), .long (1 : Int64)]) (rest := []) (show decode mt_X9_who.2.1 21 = .ok (.invokestatic 73, 3) from ds_dec (i := (21, .invokestatic 73, 3, 0, 0, 836, .int 0)) ok_X9_who 13 rfl) (ds_E.mono (sp_X9_in a3.toInt64 (0 : Int64) (1 : Int64) σ ) (fun r σ3 hr => ?_)) ⟨zw_X9_in.1, zw_X9_in.2.1, zw_X9_in.2.2, by decide, by decide⟩ (ds_wb_T (p := 836) (by decide +kernel)) zt_X9_in (Nat.le_of_ble_eq_true rfl)
      obtain ⟨x9, rfl, e8, e9⟩ := hr
      rw [e8, e9]
      show ds_X mt_X9_who Ym 24 [some (.ref 0), some (.int a1), some (.int a2), some (.int a3), none, none, none, none, none, none, none, none, none, none, none] [.int (q_in a3.toInt64 (0 : Int64) (1 : Int64))] σ Q
      refine ds_if_ne (show decode mt_X9_who.2.1 24 = .ok (.ifCond .ne 6, 3) from ds_dec (i := (24, .ifCond .ne 6, 3, 0, 0, 0, .int 0)) ok_X9_who 14 rfl) (t := 30) (by decide) (fun hc => ?_) (fun hc => ?_)
      · replace h := h.1 hc
        refine ds_blk (ls2 := [some (.ref 0), some (.int a1), some (.int a2), some (.int a3), some (.int (-6 : Int32)), some (.long (0 : Int64)), none, some (.long (1 : Int64)), none, some (.int (0 : Int32)), none, none, none, none, none]) (st2 := []) (σ2 := σ) ok_X9_who 17 8 30 43 [] rfl rfl rfl rfl trivial ?_
        obtain ⟨n, h⟩ := h
        refine x_X9_who_43 n a1 a2 a3 (-6 : Int32) (0 : Int64) (1 : Int64) (0 : Int32) _ _ _ _ _ _ _ σ Q h
      · replace h := h.2 hc
        refine ds_blk (ls2 := [some (.ref 0), some (.int a1), some (.int a2), some (.int a3), none, none, none, none, none, none, none, none, none, none, none]) (st2 := [.int (-2 : Int32)]) (σ2 := σ) ok_X9_who 15 1 27 29 [] rfl rfl rfl rfl trivial ?_
        exact ds_iret (show decode mt_X9_who.2.1 29 = .ok (.ireturn, 1) from ds_dec (i := (29, .ireturn, 1, 0, 0, 0, .int 0)) ok_X9_who 16 rfl) rfl h
    · replace h := h.2 hc
      refine ds_blk (ls2 := [some (.ref 0), some (.int a1), some (.int a2), some (.int a3), none, none, none, none, none, none, none, none, none, none, none]) (st2 := [.int (-1 : Int32)]) (σ2 := σ) ok_X9_who 7 1 15 16 [] rfl rfl rfl rfl trivial ?_
      exact ds_iret (show decode mt_X9_who.2.1 16 = .ok (.ireturn, 1) from ds_dec (i := (16, .ireturn, 1, 0, 0, 0, .int 0)) ok_X9_who 8 rfl) rfl h
def w_X9_isLesserRow_2 : Nat → (v1 : Int32) → (σ : ds_S) → (Q : Option Value → ds_S → Prop) → Prop
  | 0, _, _, _ => False
  | f + 1, v1, σ, Q => (((σ.1 0 7) ≤ v1 → Q (some (.int (0 : Int32))) σ) ∧ (¬ (σ.1 0 7) ≤ v1 → vp_in v1 10 ∧ vp_in v1 10 ∧ (((σ.1 4 v1.toNatClampNeg) = (σ.1 8 v1.toNatClampNeg) → w_X9_isLesserRow_2 f (v1 + (1 : Int32)) σ Q) ∧ (¬ (σ.1 4 v1.toNatClampNeg) = (σ.1 8 v1.toNatClampNeg) → vp_in v1 10 ∧ vp_in v1 10 ∧ (((σ.1 8 v1.toNatClampNeg) ≤ (σ.1 4 v1.toNatClampNeg) → Q (some (.int (0 : Int32))) σ) ∧ (¬ (σ.1 8 v1.toNatClampNeg) ≤ (σ.1 4 v1.toNatClampNeg) → Q (some (.int (1 : Int32))) σ))))))
theorem x_X9_isLesserRow_2 : ∀ (f : Nat) (v1 : Int32) (σ : ds_S) (Q : Option Value → ds_S → Prop), w_X9_isLesserRow_2 f v1 σ Q → ds_X mt_X9_isLesserRow Ym 2 [some (.ref 0), some (.int v1)] [] σ Q := by
  intro f
  induction f with
  | zero => intro v1 σ Q h; exact False.elim h
  | succ f ih =>
    intro v1 σ Q h
    rw [w_X9_isLesserRow_2] at h
    refine ds_blk (ls2 := [some (.ref 0), some (.int v1)]) (st2 := [.int (σ.1 0 7), .int v1]) (σ2 := σ) ok_X9_isLesserRow 2 3 2 7 [ds_k Ym 0 9] rfl rfl rfl rfl ⟨⟨by decide, rfl⟩, trivial⟩ ?_
    refine ds_ic_ge (show decode mt_X9_isLesserRow.2.1 7 = .ok (.if_icmp .ge 45, 3) from ds_dec (i := (7, .if_icmp .ge 45, 3, 0, 0, 0, .int 0)) ok_X9_isLesserRow 5 rfl) (t := 52) (by decide) (fun hc => ?_) (fun hc => ?_)
    · replace h := h.1 hc
      refine ds_blk (ls2 := [some (.ref 0), some (.int v1)]) (st2 := [.int (0 : Int32)]) (σ2 := σ) ok_X9_isLesserRow 30 1 52 53 [] rfl rfl rfl rfl trivial ?_
      exact ds_zret (show decode mt_X9_isLesserRow.2.1 53 = .ok (.ireturn, 1) from ds_dec (i := (53, .ireturn, 1, 0, 0, 0, .int 0)) ok_X9_isLesserRow 31 rfl) rfl (by decide) h
    · replace h := h.2 hc
      obtain ⟨o1, o2, h⟩ := h
      refine ds_blk (ls2 := [some (.ref 0), some (.int v1)]) (st2 := [.int (σ.1 8 v1.toNatClampNeg), .int (σ.1 4 v1.toNatClampNeg)]) (σ2 := σ) ok_X9_isLesserRow 6 8 10 22 [ds_k Ym 0 9, ds_k Ym 4 10, vp_in v1 10, ds_k Ym 0 9, ds_k Ym 8 10, vp_in v1 10] rfl rfl rfl rfl ⟨⟨by decide, rfl⟩, ⟨by decide, rfl⟩, o1, ⟨by decide, rfl⟩, ⟨by decide, rfl⟩, o2, trivial⟩ ?_
      refine ds_ic_eq (show decode mt_X9_isLesserRow.2.1 22 = .ok (.if_icmp .eq 24, 3) from ds_dec (i := (22, .if_icmp .eq 24, 3, 0, 0, 0, .int 0)) ok_X9_isLesserRow 14 rfl) (t := 46) (by decide) (fun hc => ?_) (fun hc => ?_)
      · replace h := h.1 hc
        refine ds_blk (ls2 := [some (.ref 0), some (.int (v1 + (1 : Int32)))]) (st2 := []) (σ2 := σ) ok_X9_isLesserRow 28 1 46 49 [] rfl rfl rfl rfl trivial ?_
        refine ds_goto (show decode mt_X9_isLesserRow.2.1 49 = .ok (.goto (-47), 3) from ds_dec (i := (49, .goto (-47), 3, 0, 0, 0, .int 0)) ok_X9_isLesserRow 29 rfl) (t := 2) (by decide) ?_
        exact ih (v1 + (1 : Int32)) σ Q h
      · replace h := h.2 hc
        obtain ⟨o3, o4, h⟩ := h
        refine ds_blk (ls2 := [some (.ref 0), some (.int v1)]) (st2 := [.int (σ.1 8 v1.toNatClampNeg), .int (σ.1 4 v1.toNatClampNeg)]) (σ2 := σ) ok_X9_isLesserRow 15 8 25 37 [ds_k Ym 0 9, ds_k Ym 4 10, vp_in v1 10, ds_k Ym 0 9, ds_k Ym 8 10, vp_in v1 10] rfl rfl rfl rfl ⟨⟨by decide, rfl⟩, ⟨by decide, rfl⟩, o3, ⟨by decide, rfl⟩, ⟨by decide, rfl⟩, o4, trivial⟩ ?_
        refine ds_ic_ge (show decode mt_X9_isLesserRow.2.1 37 = .ok (.if_icmp .ge 7, 3) from ds_dec (i := (37, .if_icmp .ge 7, 3, 0, 0, 0, .int 0)) ok_X9_isLesserRow 23 rfl) (t := 44) (by decide) (fun hc => ?_) (fun hc => ?_)
        · replace h := h.1 hc
          refine ds_blk (ls2 := [some (.ref 0), some (.int v1)]) (st2 := [.int (0 : Int32)]) (σ2 := σ) ok_X9_isLesserRow 26 1 44 45 [] rfl rfl rfl rfl trivial ?_
          exact ds_zret (show decode mt_X9_isLesserRow.2.1 45 = .ok (.ireturn, 1) from ds_dec (i := (45, .ireturn, 1, 0, 0, 0, .int 0)) ok_X9_isLesserRow 27 rfl) rfl (by decide) h
        · replace h := h.2 hc
          refine ds_blk (ls2 := [some (.ref 0), some (.int v1)]) (st2 := [.int (1 : Int32)]) (σ2 := σ) ok_X9_isLesserRow 24 1 40 41 [] rfl rfl rfl rfl trivial ?_
          refine ds_goto (show decode mt_X9_isLesserRow.2.1 41 = .ok (.goto 4, 3) from ds_dec (i := (41, .goto 4, 3, 0, 0, 0, .int 0)) ok_X9_isLesserRow 25 rfl) (t := 45) (by decide) ?_
          exact ds_zret (show decode mt_X9_isLesserRow.2.1 45 = .ok (.ireturn, 1) from ds_dec (i := (45, .ireturn, 1, 0, 0, 0, .int 0)) ok_X9_isLesserRow 27 rfl) rfl (by decide) h
def w_X9_isLesserRow (σ : ds_S) (Q : Option Value → ds_S → Prop) : Prop := ∃ n, w_X9_isLesserRow_2 n (0 : Int32) σ Q
theorem e_X9_isLesserRow (σ : ds_S) (Q : Option Value → ds_S → Prop) (h : w_X9_isLesserRow σ Q) : ds_E mt_X9_isLesserRow Ym [.ref 0] σ Q := by
  refine ds_enter (by decide) (Nat.le_of_ble_eq_true rfl) ?_
  show ds_X mt_X9_isLesserRow Ym 0 [some (.ref 0), none] [] σ Q
  unfold w_X9_isLesserRow at h
  refine ds_blk (ls2 := [some (.ref 0), some (.int (0 : Int32))]) (st2 := []) (σ2 := σ) ok_X9_isLesserRow 0 2 0 2 [] rfl rfl rfl rfl trivial ?_
  obtain ⟨n, h⟩ := h
  refine x_X9_isLesserRow_2 n (0 : Int32) σ Q h
def w_X9_changes_4 : Nat → (v1 : Int32) → (v2 : Int32) → (σ : ds_S) → (Q : Option Value → ds_S → Prop) → Prop
  | 0, _, _, _, _ => False
  | f + 1, v1, v2, σ, Q => (((σ.1 0 7) ≤ v2 → Q (some (.int v1)) σ) ∧ (¬ (σ.1 0 7) ≤ v2 → vp_in v2 10 ∧ vp_in v2 10 ∧ ((¬ (σ.1 4 v2.toNatClampNeg) = (σ.1 14 v2.toNatClampNeg) → w_X9_changes_4 f (v1 + (1 : Int32)) (v2 + (1 : Int32)) σ Q) ∧ ((σ.1 4 v2.toNatClampNeg) = (σ.1 14 v2.toNatClampNeg) → w_X9_changes_4 f (v1 + (0 : Int32)) (v2 + (1 : Int32)) σ Q))))
theorem x_X9_changes_4 : ∀ (f : Nat) (v1 : Int32) (v2 : Int32) (σ : ds_S) (Q : Option Value → ds_S → Prop), w_X9_changes_4 f v1 v2 σ Q → ds_X mt_X9_changes Ym 4 [some (.ref 0), some (.int v1), some (.int v2)] [] σ Q := by
  intro f
  induction f with
  | zero => intro v1 v2 σ Q h; exact False.elim h
  | succ f ih =>
    intro v1 v2 σ Q h
    rw [w_X9_changes_4] at h
    refine ds_blk (ls2 := [some (.ref 0), some (.int v1), some (.int v2)]) (st2 := [.int (σ.1 0 7), .int v2]) (σ2 := σ) ok_X9_changes 4 3 4 9 [ds_k Ym 0 9] rfl rfl rfl rfl ⟨⟨by decide, rfl⟩, trivial⟩ ?_
    refine ds_ic_ge (show decode mt_X9_changes.2.1 9 = .ok (.if_icmp .ge 32, 3) from ds_dec (i := (9, .if_icmp .ge 32, 3, 0, 0, 0, .int 0)) ok_X9_changes 7 rfl) (t := 41) (by decide) (fun hc => ?_) (fun hc => ?_)
    · replace h := h.1 hc
      refine ds_blk (ls2 := [some (.ref 0), some (.int v1), some (.int v2)]) (st2 := [.int v1]) (σ2 := σ) ok_X9_changes 25 1 41 42 [] rfl rfl rfl rfl trivial ?_
      exact ds_iret (show decode mt_X9_changes.2.1 42 = .ok (.ireturn, 1) from ds_dec (i := (42, .ireturn, 1, 0, 0, 0, .int 0)) ok_X9_changes 26 rfl) rfl h
    · replace h := h.2 hc
      obtain ⟨o1, o2, h⟩ := h
      refine ds_blk (ls2 := [some (.ref 0), some (.int v1), some (.int v2)]) (st2 := [.int (σ.1 14 v2.toNatClampNeg), .int (σ.1 4 v2.toNatClampNeg), .int v1]) (σ2 := σ) ok_X9_changes 8 9 12 25 [ds_k Ym 0 9, ds_k Ym 4 10, vp_in v2 10, ds_k Ym 0 9, ds_k Ym 14 10, vp_in v2 10] rfl rfl rfl rfl ⟨⟨by decide, rfl⟩, ⟨by decide, rfl⟩, o1, ⟨by decide, rfl⟩, ⟨by decide, rfl⟩, o2, trivial⟩ ?_
      refine ds_ic_ne (show decode mt_X9_changes.2.1 25 = .ok (.if_icmp .ne 7, 3) from ds_dec (i := (25, .if_icmp .ne 7, 3, 0, 0, 0, .int 0)) ok_X9_changes 17 rfl) (t := 32) (by decide) (fun hc => ?_) (fun hc => ?_)
      · replace h := h.1 hc
        refine ds_blk (ls2 := [some (.ref 0), some (.int (v1 + (1 : Int32))), some (.int (v2 + (1 : Int32)))]) (st2 := []) (σ2 := σ) ok_X9_changes 20 4 32 38 [] rfl rfl rfl rfl trivial ?_
        refine ds_goto (show decode mt_X9_changes.2.1 38 = .ok (.goto (-34), 3) from ds_dec (i := (38, .goto (-34), 3, 0, 0, 0, .int 0)) ok_X9_changes 24 rfl) (t := 4) (by decide) ?_
        exact ih (v1 + (1 : Int32)) (v2 + (1 : Int32)) σ Q h
      · replace h := h.2 hc
        refine ds_blk (ls2 := [some (.ref 0), some (.int v1), some (.int v2)]) (st2 := [.int (0 : Int32), .int v1]) (σ2 := σ) ok_X9_changes 18 1 28 29 [] rfl rfl rfl rfl trivial ?_
        refine ds_goto (show decode mt_X9_changes.2.1 29 = .ok (.goto 4, 3) from ds_dec (i := (29, .goto 4, 3, 0, 0, 0, .int 0)) ok_X9_changes 19 rfl) (t := 33) (by decide) ?_
        refine ds_blk (ls2 := [some (.ref 0), some (.int (v1 + (0 : Int32))), some (.int (v2 + (1 : Int32)))]) (st2 := []) (σ2 := σ) ok_X9_changes 21 3 33 38 [] rfl rfl rfl rfl trivial ?_
        refine ds_goto (show decode mt_X9_changes.2.1 38 = .ok (.goto (-34), 3) from ds_dec (i := (38, .goto (-34), 3, 0, 0, 0, .int 0)) ok_X9_changes 24 rfl) (t := 4) (by decide) ?_
        exact ih (v1 + (0 : Int32)) (v2 + (1 : Int32)) σ Q h
def w_X9_changes (σ : ds_S) (Q : Option Value → ds_S → Prop) : Prop := ∃ n, w_X9_changes_4 n (0 : Int32) (0 : Int32) σ Q
theorem e_X9_changes (σ : ds_S) (Q : Option Value → ds_S → Prop) (h : w_X9_changes σ Q) : ds_E mt_X9_changes Ym [.ref 0] σ Q := by
  refine ds_enter (by decide) (Nat.le_of_ble_eq_true rfl) ?_
  show ds_X mt_X9_changes Ym 0 [some (.ref 0), none, none] [] σ Q
  unfold w_X9_changes at h
  refine ds_blk (ls2 := [some (.ref 0), some (.int (0 : Int32)), some (.int (0 : Int32))]) (st2 := []) (σ2 := σ) ok_X9_changes 0 4 0 4 [] rfl rfl rfl rfl trivial ?_
  obtain ⟨n, h⟩ := h
  refine x_X9_changes_4 n (0 : Int32) (0 : Int32) σ Q h
def w_X9_seek_32 : Nat → (v1 : Int32) → (v2 : Int32) → (v3 : Int32) → (v4 : Int32) → (σ : ds_S) → (Q : Option Value → ds_S → Prop) → (K97 : Int32 → Int32 → Int32 → ds_S → Prop) → Prop
  | 0, _, _, _, _, _, _, _ => False
  | f + 1, v1, v2, v3, v4, σ, Q, K97 => (((σ.1 0 7) ≤ v4 → K97 v1 v2 v3 σ) ∧ (¬ (σ.1 0 7) ≤ v4 → vp_in v4 10 ∧ vp_in v4 10 ∧ (((5 : Int32) ≤ v3 → w_X9_seek_32 f v1 v2 v3 (v4 + (1 : Int32)) (ds_wi σ 14 v4.toNatClampNeg (σ.1 4 v4.toNatClampNeg)) Q K97) ∧ (¬ (5 : Int32) ≤ v3 → vp_in v4 10 ∧ ((¬ (σ.1 5 v4.toNatClampNeg) = 0 → w_X9_seek_32 f v1 v2 v3 (v4 + (1 : Int32)) (ds_wi σ 14 v4.toNatClampNeg (σ.1 4 v4.toNatClampNeg)) Q K97) ∧ ((σ.1 5 v4.toNatClampNeg) = 0 → vp_in v4 10 ∧ ((¬ (σ.1 6 v4.toNatClampNeg) = 0 → w_X9_seek_32 f v1 v2 v3 (v4 + (1 : Int32)) (ds_wi σ 14 v4.toNatClampNeg (σ.1 4 v4.toNatClampNeg)) Q K97) ∧ ((σ.1 6 v4.toNatClampNeg) = 0 → vp_in v3 5 ∧ w_X9_seek_32 f v1 v2 (v3 + (1 : Int32)) (v4 + (1 : Int32)) (ds_wi (ds_wi σ 14 v4.toNatClampNeg (σ.1 4 v4.toNatClampNeg)) 15 v3.toNatClampNeg v4) Q K97))))))))
theorem x_X9_seek_32 : ∀ (f : Nat) (v1 : Int32) (v2 : Int32) (v3 : Int32) (v4 : Int32) (g5 : Option Value) (g6 : Option Value) (g7 : Option Value) (g8 : Option Value) (g9 : Option Value) (g10 : Option Value) (g11 : Option Value) (σ : ds_S) (Q : Option Value → ds_S → Prop) (K97 : Int32 → Int32 → Int32 → ds_S → Prop) (hK97 : ∀ (v1 : Int32) (v2 : Int32) (v3 : Int32) (g4 : Option Value) (g5 : Option Value) (g6 : Option Value) (g7 : Option Value) (g8 : Option Value) (g9 : Option Value) (g10 : Option Value) (g11 : Option Value) (σ2 : ds_S), K97 v1 v2 v3 σ2 → ds_X mt_X9_seek Ym 97 [some (.ref 0), some (.int v1), some (.int v2), some (.int v3), g4, g5, g6, g7, g8, g9, g10, g11] [] σ2 Q), w_X9_seek_32 f v1 v2 v3 v4 σ Q K97 → ds_X mt_X9_seek Ym 32 [some (.ref 0), some (.int v1), some (.int v2), some (.int v3), some (.int v4), g5, g6, g7, g8, g9, g10, g11] [] σ Q := by
  intro f
  induction f with
  | zero => intro v1 v2 v3 v4 g5 g6 g7 g8 g9 g10 g11 σ Q K97 hK97 h; exact False.elim h
  | succ f ih =>
    intro v1 v2 v3 v4 g5 g6 g7 g8 g9 g10 g11 σ Q K97 hK97 h
    rw [w_X9_seek_32] at h
    refine ds_blk (ls2 := [some (.ref 0), some (.int v1), some (.int v2), some (.int v3), some (.int v4), g5, g6, g7, g8, g9, g10, g11]) (st2 := [.int (σ.1 0 7), .int v4]) (σ2 := σ) ok_X9_seek 18 3 32 38 [ds_k Ym 0 9] rfl rfl rfl rfl ⟨⟨by decide, rfl⟩, trivial⟩ ?_
    refine ds_ic_ge (show decode mt_X9_seek.2.1 38 = .ok (.if_icmp .ge 59, 3) from ds_dec (i := (38, .if_icmp .ge 59, 3, 0, 0, 0, .int 0)) ok_X9_seek 21 rfl) (t := 97) (by decide) (fun hc => ?_) (fun hc => ?_)
    · replace h := h.1 hc
      exact hK97 v1 v2 v3 _ _ _ _ _ _ _ _ σ h
    · replace h := h.2 hc
      obtain ⟨o1, o2, h⟩ := h
      refine ds_blk (ls2 := [some (.ref 0), some (.int v1), some (.int v2), some (.int v3), some (.int v4), g5, g6, g7, g8, g9, g10, g11]) (st2 := [.int (5 : Int32), .int v3]) (σ2 := (ds_wi σ 14 v4.toNatClampNeg (σ.1 4 v4.toNatClampNeg))) ok_X9_seek 22 10 41 57 [ds_k Ym 0 9, ds_k Ym 0 9, ds_k Ym 4 10, vp_in v4 10, ds_k Ym 14 10, vp_in v4 10] rfl rfl rfl rfl ⟨⟨by decide, rfl⟩, ⟨by decide, rfl⟩, ⟨by decide, rfl⟩, o1, ⟨by decide, rfl⟩, o2, trivial⟩ ?_
      refine ds_ic_ge (show decode mt_X9_seek.2.1 57 = .ok (.if_icmp .ge 34, 3) from ds_dec (i := (57, .if_icmp .ge 34, 3, 0, 0, 0, .int 0)) ok_X9_seek 32 rfl) (t := 91) (by decide) (fun hc => ?_) (fun hc => ?_)
      · replace h := h.1 hc
        refine ds_blk (ls2 := [some (.ref 0), some (.int v1), some (.int v2), some (.int v3), some (.int (v4 + (1 : Int32))), g5, g6, g7, g8, g9, g10, g11]) (st2 := []) (σ2 := (ds_wi σ 14 v4.toNatClampNeg (σ.1 4 v4.toNatClampNeg))) ok_X9_seek 49 1 91 94 [] rfl rfl rfl rfl trivial ?_
        refine ds_goto (show decode mt_X9_seek.2.1 94 = .ok (.goto (-62), 3) from ds_dec (i := (94, .goto (-62), 3, 0, 0, 0, .int 0)) ok_X9_seek 50 rfl) (t := 32) (by decide) ?_
        exact ih v1 v2 v3 (v4 + (1 : Int32)) _ _ _ _ _ _ _ (ds_wi σ 14 v4.toNatClampNeg (σ.1 4 v4.toNatClampNeg)) Q K97 hK97 h
      · replace h := h.2 hc
        obtain ⟨o3, h⟩ := h
        refine ds_blk (ls2 := [some (.ref 0), some (.int v1), some (.int v2), some (.int v3), some (.int v4), g5, g6, g7, g8, g9, g10, g11]) (st2 := [.int (σ.1 5 v4.toNatClampNeg)]) (σ2 := (ds_wi σ 14 v4.toNatClampNeg (σ.1 4 v4.toNatClampNeg))) ok_X9_seek 33 4 60 67 [ds_k Ym 0 9, ds_k Ym 5 12, vp_in v4 10] rfl rfl rfl rfl ⟨⟨by decide, rfl⟩, ⟨by decide, rfl⟩, o3, trivial⟩ ?_
        refine ds_if_ne (show decode mt_X9_seek.2.1 67 = .ok (.ifCond .ne 24, 3) from ds_dec (i := (67, .ifCond .ne 24, 3, 0, 0, 0, .int 0)) ok_X9_seek 37 rfl) (t := 91) (by decide) (fun hc => ?_) (fun hc => ?_)
        · replace h := h.1 hc
          refine ds_blk (ls2 := [some (.ref 0), some (.int v1), some (.int v2), some (.int v3), some (.int (v4 + (1 : Int32))), g5, g6, g7, g8, g9, g10, g11]) (st2 := []) (σ2 := (ds_wi σ 14 v4.toNatClampNeg (σ.1 4 v4.toNatClampNeg))) ok_X9_seek 49 1 91 94 [] rfl rfl rfl rfl trivial ?_
          refine ds_goto (show decode mt_X9_seek.2.1 94 = .ok (.goto (-62), 3) from ds_dec (i := (94, .goto (-62), 3, 0, 0, 0, .int 0)) ok_X9_seek 50 rfl) (t := 32) (by decide) ?_
          exact ih v1 v2 v3 (v4 + (1 : Int32)) _ _ _ _ _ _ _ (ds_wi σ 14 v4.toNatClampNeg (σ.1 4 v4.toNatClampNeg)) Q K97 hK97 h
        · replace h := h.2 hc
          obtain ⟨o4, h⟩ := h
          refine ds_blk (ls2 := [some (.ref 0), some (.int v1), some (.int v2), some (.int v3), some (.int v4), g5, g6, g7, g8, g9, g10, g11]) (st2 := [.int (σ.1 6 v4.toNatClampNeg)]) (σ2 := (ds_wi σ 14 v4.toNatClampNeg (σ.1 4 v4.toNatClampNeg))) ok_X9_seek 38 4 70 77 [ds_k Ym 0 9, ds_k Ym 6 12, vp_in v4 10] rfl rfl rfl rfl ⟨⟨by decide, rfl⟩, ⟨by decide, rfl⟩, o4, trivial⟩ ?_
          refine ds_if_ne (show decode mt_X9_seek.2.1 77 = .ok (.ifCond .ne 14, 3) from ds_dec (i := (77, .ifCond .ne 14, 3, 0, 0, 0, .int 0)) ok_X9_seek 42 rfl) (t := 91) (by decide) (fun hc => ?_) (fun hc => ?_)
          · replace h := h.1 hc
            refine ds_blk (ls2 := [some (.ref 0), some (.int v1), some (.int v2), some (.int v3), some (.int (v4 + (1 : Int32))), g5, g6, g7, g8, g9, g10, g11]) (st2 := []) (σ2 := (ds_wi σ 14 v4.toNatClampNeg (σ.1 4 v4.toNatClampNeg))) ok_X9_seek 49 1 91 94 [] rfl rfl rfl rfl trivial ?_
            refine ds_goto (show decode mt_X9_seek.2.1 94 = .ok (.goto (-62), 3) from ds_dec (i := (94, .goto (-62), 3, 0, 0, 0, .int 0)) ok_X9_seek 50 rfl) (t := 32) (by decide) ?_
            exact ih v1 v2 v3 (v4 + (1 : Int32)) _ _ _ _ _ _ _ (ds_wi σ 14 v4.toNatClampNeg (σ.1 4 v4.toNatClampNeg)) Q K97 hK97 h
          · replace h := h.2 hc
            obtain ⟨o5, h⟩ := h
            refine ds_blk (ls2 := [some (.ref 0), some (.int v1), some (.int v2), some (.int (v3 + (1 : Int32))), some (.int (v4 + (1 : Int32))), g5, g6, g7, g8, g9, g10, g11]) (st2 := []) (σ2 := (ds_wi (ds_wi σ 14 v4.toNatClampNeg (σ.1 4 v4.toNatClampNeg)) 15 v3.toNatClampNeg v4)) ok_X9_seek 43 7 80 94 [ds_k Ym 0 9, ds_k Ym 15 10, vp_in v3 5] rfl rfl rfl rfl ⟨⟨by decide, rfl⟩, ⟨by decide, rfl⟩, o5, trivial⟩ ?_
            refine ds_goto (show decode mt_X9_seek.2.1 94 = .ok (.goto (-62), 3) from ds_dec (i := (94, .goto (-62), 3, 0, 0, 0, .int 0)) ok_X9_seek 50 rfl) (t := 32) (by decide) ?_
            exact ih v1 v2 (v3 + (1 : Int32)) (v4 + (1 : Int32)) _ _ _ _ _ _ _ (ds_wi (ds_wi σ 14 v4.toNatClampNeg (σ.1 4 v4.toNatClampNeg)) 15 v3.toNatClampNeg v4) Q K97 hK97 h
def w_X9_seek_103 : Nat → (v1 : Int32) → (v2 : Int32) → (v3 : Int32) → (v4 : Int32) → (v5 : Int32) → (σ : ds_S) → (Q : Option Value → ds_S → Prop) → (K123 : Int32 → Int32 → Int32 → Int32 → ds_S → Prop) → Prop
  | 0, _, _, _, _, _, _, _, _ => False
  | f + 1, v1, v2, v3, v4, v5, σ, Q, K123 => ((v3 ≤ v5 → K123 v1 v2 v3 v4 σ) ∧ (¬ v3 ≤ v5 → w_X9_seek_103 f v1 v2 v3 (v4 * (v1 + (1 : Int32))) (v5 + (1 : Int32)) σ Q K123))
theorem x_X9_seek_103 : ∀ (f : Nat) (v1 : Int32) (v2 : Int32) (v3 : Int32) (v4 : Int32) (v5 : Int32) (g6 : Option Value) (g7 : Option Value) (g8 : Option Value) (g9 : Option Value) (g10 : Option Value) (g11 : Option Value) (σ : ds_S) (Q : Option Value → ds_S → Prop) (K123 : Int32 → Int32 → Int32 → Int32 → ds_S → Prop) (hK123 : ∀ (v1 : Int32) (v2 : Int32) (v3 : Int32) (v4 : Int32) (g5 : Option Value) (g6 : Option Value) (g7 : Option Value) (g8 : Option Value) (g9 : Option Value) (g10 : Option Value) (g11 : Option Value) (σ2 : ds_S), K123 v1 v2 v3 v4 σ2 → ds_X mt_X9_seek Ym 123 [some (.ref 0), some (.int v1), some (.int v2), some (.int v3), some (.int v4), g5, g6, g7, g8, g9, g10, g11] [] σ2 Q), w_X9_seek_103 f v1 v2 v3 v4 v5 σ Q K123 → ds_X mt_X9_seek Ym 103 [some (.ref 0), some (.int v1), some (.int v2), some (.int v3), some (.int v4), some (.int v5), g6, g7, g8, g9, g10, g11] [] σ Q := by
  intro f
  induction f with
  | zero => intro v1 v2 v3 v4 v5 g6 g7 g8 g9 g10 g11 σ Q K123 hK123 h; exact False.elim h
  | succ f ih =>
    intro v1 v2 v3 v4 v5 g6 g7 g8 g9 g10 g11 σ Q K123 hK123 h
    rw [w_X9_seek_103] at h
    refine ds_blk (ls2 := [some (.ref 0), some (.int v1), some (.int v2), some (.int v3), some (.int v4), some (.int v5), g6, g7, g8, g9, g10, g11]) (st2 := [.int v3, .int v5]) (σ2 := σ) ok_X9_seek 55 2 103 106 [] rfl rfl rfl rfl trivial ?_
    refine ds_ic_ge (show decode mt_X9_seek.2.1 106 = .ok (.if_icmp .ge 17, 3) from ds_dec (i := (106, .if_icmp .ge 17, 3, 0, 0, 0, .int 0)) ok_X9_seek 57 rfl) (t := 123) (by decide) (fun hc => ?_) (fun hc => ?_)
    · replace h := h.1 hc
      exact hK123 v1 v2 v3 v4 _ _ _ _ _ _ _ σ h
    · replace h := h.2 hc
      refine ds_blk (ls2 := [some (.ref 0), some (.int v1), some (.int v2), some (.int v3), some (.int (v4 * (v1 + (1 : Int32)))), some (.int (v5 + (1 : Int32))), g6, g7, g8, g9, g10, g11]) (st2 := []) (σ2 := σ) ok_X9_seek 58 7 109 120 [] rfl rfl rfl rfl trivial ?_
      refine ds_goto (show decode mt_X9_seek.2.1 120 = .ok (.goto (-17), 3) from ds_dec (i := (120, .goto (-17), 3, 0, 0, 0, .int 0)) ok_X9_seek 65 rfl) (t := 103) (by decide) ?_
      exact ih v1 v2 v3 (v4 * (v1 + (1 : Int32))) (v5 + (1 : Int32)) _ _ _ _ _ _ σ Q K123 hK123 h
def w_X9_seek_190 (v1 : Int32) (v2 : Int32) (v3 : Int32) (v4 : Int32) (v5 : Int32) (v6 : Int32) (v7 : Int32) (v8 : Int32) (t0 : Int32) (t1 : Int32) (σ : ds_S) (Q : Option Value → ds_S → Prop) (K143 : Int32 → Int32 → Int32 → Int32 → Int32 → Int32 → Int32 → Int32 → ds_S → Prop) : Prop := vp_in t1 10 ∧ ¬ (v1 + (1 : Int32)) = 0 ∧ K143 v1 v2 v3 v4 v5 v6 (v7 / (v1 + (1 : Int32))) (v8 + (1 : Int32)) (ds_wi σ 4 t1.toNatClampNeg t0)
theorem x_X9_seek_190 (v1 : Int32) (v2 : Int32) (v3 : Int32) (v4 : Int32) (v5 : Int32) (v6 : Int32) (v7 : Int32) (v8 : Int32) (t0 : Int32) (t1 : Int32) (g9 : Option Value) (g10 : Option Value) (g11 : Option Value) (σ : ds_S) (Q : Option Value → ds_S → Prop) (K143 : Int32 → Int32 → Int32 → Int32 → Int32 → Int32 → Int32 → Int32 → ds_S → Prop) (hK143 : ∀ (v1 : Int32) (v2 : Int32) (v3 : Int32) (v4 : Int32) (v5 : Int32) (v6 : Int32) (v7 : Int32) (v8 : Int32) (g9 : Option Value) (g10 : Option Value) (g11 : Option Value) (σ2 : ds_S), K143 v1 v2 v3 v4 v5 v6 v7 v8 σ2 → ds_X mt_X9_seek Ym 143 [some (.ref 0), some (.int v1), some (.int v2), some (.int v3), some (.int v4), some (.int v5), some (.int v6), some (.int v7), some (.int v8), g9, g10, g11] [] σ2 Q) (h : w_X9_seek_190 v1 v2 v3 v4 v5 v6 v7 v8 t0 t1 σ Q K143) : ds_X mt_X9_seek Ym 190 [some (.ref 0), some (.int v1), some (.int v2), some (.int v3), some (.int v4), some (.int v5), some (.int v6), some (.int v7), some (.int v8), g9, g10, g11] [.int t0, .int t1, .ref 4] σ Q := by
  unfold w_X9_seek_190 at h
  obtain ⟨o1, o2, h⟩ := h
  refine ds_blk (ls2 := [some (.ref 0), some (.int v1), some (.int v2), some (.int v3), some (.int v4), some (.int v5), some (.int v6), some (.int (v7 / (v1 + (1 : Int32)))), some (.int (v8 + (1 : Int32))), g9, g10, g11]) (st2 := []) (σ2 := (ds_wi σ 4 t1.toNatClampNeg t0)) ok_X9_seek 103 8 190 202 [ds_k Ym 4 10, vp_in t1 10, ¬ (v1 + (1 : Int32)) = 0] rfl rfl rfl rfl ⟨⟨by decide, rfl⟩, o1, o2, trivial⟩ ?_
  refine ds_goto (show decode mt_X9_seek.2.1 202 = .ok (.goto (-59), 3) from ds_dec (i := (202, .goto (-59), 3, 0, 0, 0, .int 0)) ok_X9_seek 111 rfl) (t := 143) (by decide) ?_
  exact hK143 v1 v2 v3 v4 v5 v6 (v7 / (v1 + (1 : Int32))) (v8 + (1 : Int32)) _ _ _ (ds_wi σ 4 t1.toNatClampNeg t0) h
def w_X9_seek_143 : Nat → (v1 : Int32) → (v2 : Int32) → (v3 : Int32) → (v4 : Int32) → (v5 : Int32) → (v6 : Int32) → (v7 : Int32) → (v8 : Int32) → (σ : ds_S) → (Q : Option Value → ds_S → Prop) → (K205 : Int32 → Int32 → Int32 → Int32 → Int32 → Int32 → ds_S → Prop) → Prop
  | 0, _, _, _, _, _, _, _, _, _, _, _ => False
  | f + 1, v1, v2, v3, v4, v5, v6, v7, v8, σ, Q, K205 => ((v3 ≤ v8 → K205 v1 v2 v3 v4 v5 v6 σ) ∧ (¬ v3 ≤ v8 → ¬ (v1 + (1 : Int32)) = 0 ∧ vp_in v8 5 ∧ ((¬ (v7 - v7 / (v1 + (1 : Int32)) * (v1 + (1 : Int32))) = 0 → w_X9_seek_190 v1 v2 v3 v4 v5 v6 v7 v8 (v7 - v7 / (v1 + (1 : Int32)) * (v1 + (1 : Int32))) (σ.1 15 v8.toNatClampNeg) σ Q (fun v1_1 v2_1 v3_1 v4_1 v5_1 v6_1 v7_1 v8_1 σ1 => w_X9_seek_143 f v1_1 v2_1 v3_1 v4_1 v5_1 v6_1 v7_1 v8_1 σ1 Q K205)) ∧ ((v7 - v7 / (v1 + (1 : Int32)) * (v1 + (1 : Int32))) = 0 → vp_in v8 5 ∧ vp_in (σ.1 15 v8.toNatClampNeg) 10 ∧ w_X9_seek_190 v1 v2 v3 v4 v5 v6 v7 v8 (σ.1 14 ((σ.1 15 v8.toNatClampNeg).toNatClampNeg)) (σ.1 15 v8.toNatClampNeg) σ Q (fun v1_2 v2_2 v3_2 v4_2 v5_2 v6_2 v7_2 v8_2 σ2 => w_X9_seek_143 f v1_2 v2_2 v3_2 v4_2 v5_2 v6_2 v7_2 v8_2 σ2 Q K205)))))
theorem x_X9_seek_143 : ∀ (f : Nat) (v1 : Int32) (v2 : Int32) (v3 : Int32) (v4 : Int32) (v5 : Int32) (v6 : Int32) (v7 : Int32) (v8 : Int32) (g9 : Option Value) (g10 : Option Value) (g11 : Option Value) (σ : ds_S) (Q : Option Value → ds_S → Prop) (K205 : Int32 → Int32 → Int32 → Int32 → Int32 → Int32 → ds_S → Prop) (hK205 : ∀ (v1 : Int32) (v2 : Int32) (v3 : Int32) (v4 : Int32) (v5 : Int32) (v6 : Int32) (g7 : Option Value) (g8 : Option Value) (g9 : Option Value) (g10 : Option Value) (g11 : Option Value) (σ2 : ds_S), K205 v1 v2 v3 v4 v5 v6 σ2 → ds_X mt_X9_seek Ym 205 [some (.ref 0), some (.int v1), some (.int v2), some (.int v3), some (.int v4), some (.int v5), some (.int v6), g7, g8, g9, g10, g11] [] σ2 Q), w_X9_seek_143 f v1 v2 v3 v4 v5 v6 v7 v8 σ Q K205 → ds_X mt_X9_seek Ym 143 [some (.ref 0), some (.int v1), some (.int v2), some (.int v3), some (.int v4), some (.int v5), some (.int v6), some (.int v7), some (.int v8), g9, g10, g11] [] σ Q := by
  intro f
  induction f with
  | zero => intro v1 v2 v3 v4 v5 v6 v7 v8 g9 g10 g11 σ Q K205 hK205 h; exact False.elim h
  | succ f ih =>
    intro v1 v2 v3 v4 v5 v6 v7 v8 g9 g10 g11 σ Q K205 hK205 h
    rw [w_X9_seek_143] at h
    refine ds_blk (ls2 := [some (.ref 0), some (.int v1), some (.int v2), some (.int v3), some (.int v4), some (.int v5), some (.int v6), some (.int v7), some (.int v8), g9, g10, g11]) (st2 := [.int v3, .int v8]) (σ2 := σ) ok_X9_seek 77 2 143 146 [] rfl rfl rfl rfl trivial ?_
    refine ds_ic_ge (show decode mt_X9_seek.2.1 146 = .ok (.if_icmp .ge 59, 3) from ds_dec (i := (146, .if_icmp .ge 59, 3, 0, 0, 0, .int 0)) ok_X9_seek 79 rfl) (t := 205) (by decide) (fun hc => ?_) (fun hc => ?_)
    · replace h := h.1 hc
      exact hK205 v1 v2 v3 v4 v5 v6 _ _ _ _ _ σ h
    · replace h := h.2 hc
      obtain ⟨o1, o2, h⟩ := h
      refine ds_blk (ls2 := [some (.ref 0), some (.int v1), some (.int v2), some (.int v3), some (.int v4), some (.int v5), some (.int v6), some (.int v7), some (.int v8), some (.int (v7 - v7 / (v1 + (1 : Int32)) * (v1 + (1 : Int32)))), g10, g11]) (st2 := [.int (v7 - v7 / (v1 + (1 : Int32)) * (v1 + (1 : Int32))), .int (σ.1 15 v8.toNatClampNeg), .ref 4]) (σ2 := σ) ok_X9_seek 80 13 149 170 [¬ (v1 + (1 : Int32)) = 0, ds_k Ym 0 9, ds_k Ym 0 9, ds_k Ym 15 10, vp_in v8 5] rfl rfl rfl rfl ⟨o1, ⟨by decide, rfl⟩, ⟨by decide, rfl⟩, ⟨by decide, rfl⟩, o2, trivial⟩ ?_
      refine ds_if_ne (show decode mt_X9_seek.2.1 170 = .ok (.ifCond .ne 18, 3) from ds_dec (i := (170, .ifCond .ne 18, 3, 0, 0, 0, .int 0)) ok_X9_seek 93 rfl) (t := 188) (by decide) (fun hc => ?_) (fun hc => ?_)
      · replace h := h.1 hc
        refine ds_blk (ls2 := [some (.ref 0), some (.int v1), some (.int v2), some (.int v3), some (.int v4), some (.int v5), some (.int v6), some (.int v7), some (.int v8), some (.int (v7 - v7 / (v1 + (1 : Int32)) * (v1 + (1 : Int32)))), g10, g11]) (st2 := [.int (v7 - v7 / (v1 + (1 : Int32)) * (v1 + (1 : Int32))), .int (σ.1 15 v8.toNatClampNeg), .ref 4]) (σ2 := σ) ok_X9_seek 102 1 188 190 [] rfl rfl rfl rfl trivial ?_
        refine x_X9_seek_190 v1 v2 v3 v4 v5 v6 v7 v8 (v7 - v7 / (v1 + (1 : Int32)) * (v1 + (1 : Int32))) (σ.1 15 v8.toNatClampNeg) _ _ _ σ Q _ ?_ h
        · intro v1_1 v2_1 v3_1 v4_1 v5_1 v6_1 v7_1 v8_1 g9_1 g10_1 g11_1 σ1 h
          exact ih v1_1 v2_1 v3_1 v4_1 v5_1 v6_1 v7_1 v8_1 _ _ _ σ1 Q K205 hK205 h
      · replace h := h.2 hc
        obtain ⟨o3, o4, h⟩ := h
        refine ds_blk (ls2 := [some (.ref 0), some (.int v1), some (.int v2), some (.int v3), some (.int v4), some (.int v5), some (.int v6), some (.int v7), some (.int v8), some (.int (v7 - v7 / (v1 + (1 : Int32)) * (v1 + (1 : Int32)))), g10, g11]) (st2 := [.int (σ.1 14 ((σ.1 15 v8.toNatClampNeg).toNatClampNeg)), .int (σ.1 15 v8.toNatClampNeg), .ref 4]) (σ2 := σ) ok_X9_seek 94 7 173 185 [ds_k Ym 0 9, ds_k Ym 0 9, ds_k Ym 15 10, vp_in v8 5, ds_k Ym 14 10, vp_in (σ.1 15 v8.toNatClampNeg) 10] rfl rfl rfl rfl ⟨⟨by decide, rfl⟩, ⟨by decide, rfl⟩, ⟨by decide, rfl⟩, o3, ⟨by decide, rfl⟩, o4, trivial⟩ ?_
        refine ds_goto (show decode mt_X9_seek.2.1 185 = .ok (.goto 5, 3) from ds_dec (i := (185, .goto 5, 3, 0, 0, 0, .int 0)) ok_X9_seek 101 rfl) (t := 190) (by decide) ?_
        refine x_X9_seek_190 v1 v2 v3 v4 v5 v6 v7 v8 (σ.1 14 ((σ.1 15 v8.toNatClampNeg).toNatClampNeg)) (σ.1 15 v8.toNatClampNeg) _ _ _ σ Q _ ?_ h
        · intro v1_2 v2_2 v3_2 v4_2 v5_2 v6_2 v7_2 v8_2 g9_2 g10_2 g11_2 σ2 h
          exact ih v1_2 v2_2 v3_2 v4_2 v5_2 v6_2 v7_2 v8_2 _ _ _ σ2 Q K205 hK205 h
def w_X9_seek_345 : Nat → (v1 : Int32) → (v2 : Int32) → (v3 : Int32) → (v4 : Int32) → (v5 : Int32) → (v6 : Int32) → (v11 : Int32) → (σ : ds_S) → (Q : Option Value → ds_S → Prop) → (K374 : Int32 → Int32 → Int32 → Int32 → Int32 → Int32 → ds_S → Prop) → Prop
  | 0, _, _, _, _, _, _, _, _, _, _ => False
  | f + 1, v1, v2, v3, v4, v5, v6, v11, σ, Q, K374 => (((σ.1 0 7) ≤ v11 → K374 v1 v2 v3 v4 v5 v6 σ) ∧ (¬ (σ.1 0 7) ≤ v11 → vp_in v11 10 ∧ vp_in v11 10 ∧ w_X9_seek_345 f v1 v2 v3 v4 v5 v6 (v11 + (1 : Int32)) (ds_wi σ 8 v11.toNatClampNeg (σ.1 4 v11.toNatClampNeg)) Q K374))
theorem x_X9_seek_345 : ∀ (f : Nat) (v1 : Int32) (v2 : Int32) (v3 : Int32) (v4 : Int32) (v5 : Int32) (v6 : Int32) (v11 : Int32) (g7 : Option Value) (g8 : Option Value) (g9 : Option Value) (g10 : Option Value) (σ : ds_S) (Q : Option Value → ds_S → Prop) (K374 : Int32 → Int32 → Int32 → Int32 → Int32 → Int32 → ds_S → Prop) (hK374 : ∀ (v1 : Int32) (v2 : Int32) (v3 : Int32) (v4 : Int32) (v5 : Int32) (v6 : Int32) (g7 : Option Value) (g8 : Option Value) (g9 : Option Value) (g10 : Option Value) (g11 : Option Value) (σ2 : ds_S), K374 v1 v2 v3 v4 v5 v6 σ2 → ds_X mt_X9_seek Ym 374 [some (.ref 0), some (.int v1), some (.int v2), some (.int v3), some (.int v4), some (.int v5), some (.int v6), g7, g8, g9, g10, g11] [] σ2 Q), w_X9_seek_345 f v1 v2 v3 v4 v5 v6 v11 σ Q K374 → ds_X mt_X9_seek Ym 345 [some (.ref 0), some (.int v1), some (.int v2), some (.int v3), some (.int v4), some (.int v5), some (.int v6), g7, g8, g9, g10, some (.int v11)] [] σ Q := by
  intro f
  induction f with
  | zero => intro v1 v2 v3 v4 v5 v6 v11 g7 g8 g9 g10 σ Q K374 hK374 h; exact False.elim h
  | succ f ih =>
    intro v1 v2 v3 v4 v5 v6 v11 g7 g8 g9 g10 σ Q K374 hK374 h
    rw [w_X9_seek_345] at h
    refine ds_blk (ls2 := [some (.ref 0), some (.int v1), some (.int v2), some (.int v3), some (.int v4), some (.int v5), some (.int v6), g7, g8, g9, g10, some (.int v11)]) (st2 := [.int (σ.1 0 7), .int v11]) (σ2 := σ) ok_X9_seek 179 3 345 351 [ds_k Ym 0 9] rfl rfl rfl rfl ⟨⟨by decide, rfl⟩, trivial⟩ ?_
    refine ds_ic_ge (show decode mt_X9_seek.2.1 351 = .ok (.if_icmp .ge 23, 3) from ds_dec (i := (351, .if_icmp .ge 23, 3, 0, 0, 0, .int 0)) ok_X9_seek 182 rfl) (t := 374) (by decide) (fun hc => ?_) (fun hc => ?_)
    · replace h := h.1 hc
      exact hK374 v1 v2 v3 v4 v5 v6 _ _ _ _ _ σ h
    · replace h := h.2 hc
      obtain ⟨o1, o2, h⟩ := h
      refine ds_blk (ls2 := [some (.ref 0), some (.int v1), some (.int v2), some (.int v3), some (.int v4), some (.int v5), some (.int v6), g7, g8, g9, (ds_nl g10), some (.int (v11 + (1 : Int32)))]) (st2 := []) (σ2 := (ds_wi σ 8 v11.toNatClampNeg (σ.1 4 v11.toNatClampNeg))) ok_X9_seek 183 9 354 371 [ds_k Ym 0 9, ds_k Ym 0 9, ds_k Ym 4 10, vp_in v11 10, ds_k Ym 8 10, vp_in v11 10] rfl rfl rfl rfl ⟨⟨by decide, rfl⟩, ⟨by decide, rfl⟩, ⟨by decide, rfl⟩, o1, ⟨by decide, rfl⟩, o2, trivial⟩ ?_
      refine ds_goto (show decode mt_X9_seek.2.1 371 = .ok (.goto (-26), 3) from ds_dec (i := (371, .goto (-26), 3, 0, 0, 0, .int 0)) ok_X9_seek 192 rfl) (t := 345) (by decide) ?_
      exact ih v1 v2 v3 v4 v5 v6 (v11 + (1 : Int32)) _ _ _ _ (ds_wi σ 8 v11.toNatClampNeg (σ.1 4 v11.toNatClampNeg)) Q K374 hK374 h
def w_X9_seek_322 (v1 : Int32) (v2 : Int32) (v3 : Int32) (v4 : Int32) (v6 : Int32) (v8 : Int32) (σ : ds_S) (Q : Option Value → ds_S → Prop) (K129 : Int32 → Int32 → Int32 → Int32 → Int32 → Int32 → ds_S → Prop) : Prop := ∃ n, w_X9_seek_345 n v1 v2 v3 v4 v8 v6 (0 : Int32) (ds_wl (ds_wl σ 0 28 (σ.2 0 22)) 0 29 (σ.2 0 23)) Q (fun v1_1 v2_1 v3_1 v4_1 v5_1 v6_1 σ1 => K129 v1_1 v2_1 v3_1 v4_1 v5_1 (v6_1 + (1 : Int32)) σ1)
theorem x_X9_seek_322 (v1 : Int32) (v2 : Int32) (v3 : Int32) (v4 : Int32) (v6 : Int32) (v8 : Int32) (g5 : Option Value) (g7 : Option Value) (g9 : Option Value) (g10 : Option Value) (g11 : Option Value) (σ : ds_S) (Q : Option Value → ds_S → Prop) (K129 : Int32 → Int32 → Int32 → Int32 → Int32 → Int32 → ds_S → Prop) (hK129 : ∀ (v1 : Int32) (v2 : Int32) (v3 : Int32) (v4 : Int32) (v5 : Int32) (v6 : Int32) (g7 : Option Value) (g8 : Option Value) (g9 : Option Value) (g10 : Option Value) (g11 : Option Value) (σ2 : ds_S), K129 v1 v2 v3 v4 v5 v6 σ2 → ds_X mt_X9_seek Ym 129 [some (.ref 0), some (.int v1), some (.int v2), some (.int v3), some (.int v4), some (.int v5), some (.int v6), g7, g8, g9, g10, g11] [] σ2 Q) (h : w_X9_seek_322 v1 v2 v3 v4 v6 v8 σ Q K129) : ds_X mt_X9_seek Ym 322 [some (.ref 0), some (.int v1), some (.int v2), some (.int v3), some (.int v4), g5, some (.int v6), g7, some (.int v8), g9, g10, g11] [] σ Q := by
  unfold w_X9_seek_322 at h
  refine ds_blk (ls2 := [some (.ref 0), some (.int v1), some (.int v2), some (.int v3), some (.int v4), some (.int v8), some (.int v6), g7, some (.int v8), g9, (ds_nl g10), some (.int (0 : Int32))]) (st2 := []) (σ2 := (ds_wl (ds_wl σ 0 28 (σ.2 0 22)) 0 29 (σ.2 0 23))) ok_X9_seek 167 12 322 345 [ds_k Ym 0 9, ds_k Ym 0 9, ds_k Ym 0 9, ds_k Ym 0 9] rfl rfl rfl rfl ⟨⟨by decide, rfl⟩, ⟨by decide, rfl⟩, ⟨by decide, rfl⟩, ⟨by decide, rfl⟩, trivial⟩ ?_
  obtain ⟨n, h⟩ := h
  refine x_X9_seek_345 n v1 v2 v3 v4 v8 v6 (0 : Int32) _ _ _ _ (ds_wl (ds_wl σ 0 28 (σ.2 0 22)) 0 29 (σ.2 0 23)) Q _ ?_ h
  · intro v1_1 v2_1 v3_1 v4_1 v5_1 v6_1 g7_1 g8_1 g9_1 g10_1 g11_1 σ1 h
    refine ds_blk (ls2 := [some (.ref 0), some (.int v1_1), some (.int v2_1), some (.int v3_1), some (.int v4_1), some (.int v5_1), some (.int (v6_1 + (1 : Int32))), g7_1, g8_1, g9_1, g10_1, g11_1]) (st2 := []) (σ2 := σ1) ok_X9_seek 193 1 374 377 [] rfl rfl rfl rfl trivial ?_
    refine ds_goto (show decode mt_X9_seek.2.1 377 = .ok (.goto (-248), 3) from ds_dec (i := (377, .goto (-248), 3, 0, 0, 0, .int 0)) ok_X9_seek 194 rfl) (t := 129) (by decide) ?_
    exact hK129 v1_1 v2_1 v3_1 v4_1 v5_1 (v6_1 + (1 : Int32)) _ _ _ _ _ σ1 h
def w_X9_seek_289 (v1 : Int32) (v2 : Int32) (v3 : Int32) (v4 : Int32) (v5 : Int32) (v6 : Int32) (v8 : Int32) (v9 : Int32) (t0 : Int32) (σ : ds_S) (Q : Option Value → ds_S → Prop) (K129 : Int32 → Int32 → Int32 → Int32 → Int32 → Int32 → ds_S → Prop) : Prop := ((¬ v9 = 0 → w_X9_seek_322 v1 v2 v3 v4 v6 v8 σ Q K129) ∧ (v9 = 0 → ((t0 = 0 → K129 v1 v2 v3 v4 v5 (v6 + (1 : Int32)) σ) ∧ (¬ t0 = 0 → ((v8 < v5 → w_X9_seek_322 v1 v2 v3 v4 v6 v8 σ Q K129) ∧ (¬ v8 < v5 → ((¬ v8 = v5 → K129 v1 v2 v3 v4 v5 (v6 + (1 : Int32)) σ) ∧ (v8 = v5 → ds_EI mt_X9_isLesserRow Ym [.ref 0] σ (fun r1 σ1 => ((r1 = 0 → K129 v1 v2 v3 v4 v5 (v6 + (1 : Int32)) σ1) ∧ (¬ r1 = 0 → w_X9_seek_322 v1 v2 v3 v4 v6 v8 σ1 Q K129)))))))))))
theorem x_X9_seek_289 (v1 : Int32) (v2 : Int32) (v3 : Int32) (v4 : Int32) (v5 : Int32) (v6 : Int32) (v8 : Int32) (v9 : Int32) (t0 : Int32) (g7 : Option Value) (g10 : Option Value) (g11 : Option Value) (σ : ds_S) (Q : Option Value → ds_S → Prop) (K129 : Int32 → Int32 → Int32 → Int32 → Int32 → Int32 → ds_S → Prop) (hK129 : ∀ (v1 : Int32) (v2 : Int32) (v3 : Int32) (v4 : Int32) (v5 : Int32) (v6 : Int32) (g7 : Option Value) (g8 : Option Value) (g9 : Option Value) (g10 : Option Value) (g11 : Option Value) (σ2 : ds_S), K129 v1 v2 v3 v4 v5 v6 σ2 → ds_X mt_X9_seek Ym 129 [some (.ref 0), some (.int v1), some (.int v2), some (.int v3), some (.int v4), some (.int v5), some (.int v6), g7, g8, g9, g10, g11] [] σ2 Q) (h : w_X9_seek_289 v1 v2 v3 v4 v5 v6 v8 v9 t0 σ Q K129) : ds_X mt_X9_seek Ym 289 [some (.ref 0), some (.int v1), some (.int v2), some (.int v3), some (.int v4), some (.int v5), some (.int v6), g7, some (.int v8), some (.int v9), g10, g11] [.int t0] σ Q := by
  unfold w_X9_seek_289 at h
  refine ds_blk (ls2 := [some (.ref 0), some (.int v1), some (.int v2), some (.int v3), some (.int v4), some (.int v5), some (.int v6), g7, some (.int v8), some (.int v9), some (.int t0), g11]) (st2 := [.int v9]) (σ2 := σ) ok_X9_seek 153 2 289 293 [] rfl rfl rfl rfl trivial ?_
  refine ds_if_ne (show decode mt_X9_seek.2.1 293 = .ok (.ifCond .ne 29, 3) from ds_dec (i := (293, .ifCond .ne 29, 3, 0, 0, 0, .int 0)) ok_X9_seek 155 rfl) (t := 322) (by decide) (fun hc => ?_) (fun hc => ?_)
  · replace h := h.1 hc
    refine x_X9_seek_322 v1 v2 v3 v4 v6 v8 _ _ _ _ _ σ Q K129 hK129 h
  · replace h := h.2 hc
    refine ds_blk (ls2 := [some (.ref 0), some (.int v1), some (.int v2), some (.int v3), some (.int v4), some (.int v5), some (.int v6), g7, some (.int v8), some (.int v9), some (.int t0), g11]) (st2 := [.int t0]) (σ2 := σ) ok_X9_seek 156 1 296 298 [] rfl rfl rfl rfl trivial ?_
    refine ds_if_eq (show decode mt_X9_seek.2.1 298 = .ok (.ifCond .eq 76, 3) from ds_dec (i := (298, .ifCond .eq 76, 3, 0, 0, 0, .int 0)) ok_X9_seek 157 rfl) (t := 374) (by decide) (fun hc => ?_) (fun hc => ?_)
    · replace h := h.1 hc
      refine ds_blk (ls2 := [some (.ref 0), some (.int v1), some (.int v2), some (.int v3), some (.int v4), some (.int v5), some (.int (v6 + (1 : Int32))), g7, some (.int v8), some (.int v9), some (.int t0), g11]) (st2 := []) (σ2 := σ) ok_X9_seek 193 1 374 377 [] rfl rfl rfl rfl trivial ?_
      refine ds_goto (show decode mt_X9_seek.2.1 377 = .ok (.goto (-248), 3) from ds_dec (i := (377, .goto (-248), 3, 0, 0, 0, .int 0)) ok_X9_seek 194 rfl) (t := 129) (by decide) ?_
      exact hK129 v1 v2 v3 v4 v5 (v6 + (1 : Int32)) _ _ _ _ _ σ h
    · replace h := h.2 hc
      refine ds_blk (ls2 := [some (.ref 0), some (.int v1), some (.int v2), some (.int v3), some (.int v4), some (.int v5), some (.int v6), g7, some (.int v8), some (.int v9), some (.int t0), g11]) (st2 := [.int v5, .int v8]) (σ2 := σ) ok_X9_seek 158 2 301 305 [] rfl rfl rfl rfl trivial ?_
      refine ds_ic_lt (show decode mt_X9_seek.2.1 305 = .ok (.if_icmp .lt 17, 3) from ds_dec (i := (305, .if_icmp .lt 17, 3, 0, 0, 0, .int 0)) ok_X9_seek 160 rfl) (t := 322) (by decide) (fun hc => ?_) (fun hc => ?_)
      · replace h := h.1 hc
        refine x_X9_seek_322 v1 v2 v3 v4 v6 v8 _ _ _ _ _ σ Q K129 hK129 h
      · replace h := h.2 hc
        refine ds_blk (ls2 := [some (.ref 0), some (.int v1), some (.int v2), some (.int v3), some (.int v4), some (.int v5), some (.int v6), g7, some (.int v8), some (.int v9), some (.int t0), g11]) (st2 := [.int v5, .int v8]) (σ2 := σ) ok_X9_seek 161 2 308 312 [] rfl rfl rfl rfl trivial ?_
        refine ds_ic_ne (show decode mt_X9_seek.2.1 312 = .ok (.if_icmp .ne 62, 3) from ds_dec (i := (312, .if_icmp .ne 62, 3, 0, 0, 0, .int 0)) ok_X9_seek 163 rfl) (t := 374) (by decide) (fun hc => ?_) (fun hc => ?_)
        · replace h := h.1 hc
          refine ds_blk (ls2 := [some (.ref 0), some (.int v1), some (.int v2), some (.int v3), some (.int v4), some (.int v5), some (.int (v6 + (1 : Int32))), g7, some (.int v8), some (.int v9), some (.int t0), g11]) (st2 := []) (σ2 := σ) ok_X9_seek 193 1 374 377 [] rfl rfl rfl rfl trivial ?_
          refine ds_goto (show decode mt_X9_seek.2.1 377 = .ok (.goto (-248), 3) from ds_dec (i := (377, .goto (-248), 3, 0, 0, 0, .int 0)) ok_X9_seek 194 rfl) (t := 129) (by decide) ?_
          exact hK129 v1 v2 v3 v4 v5 (v6 + (1 : Int32)) _ _ _ _ _ σ h
        · replace h := h.2 hc
          refine ds_blk (ls2 := [some (.ref 0), some (.int v1), some (.int v2), some (.int v3), some (.int v4), some (.int v5), some (.int v6), g7, some (.int v8), some (.int v9), some (.int t0), g11]) (st2 := [.ref 0]) (σ2 := σ) ok_X9_seek 164 1 315 316 [] rfl rfl rfl rfl trivial ?_
          refine ds_callV (z := mt_X9_isLesserRow) (b := 0) (as := []) (rest := []) (show decode mt_X9_seek.2.1 316 = .ok (.invokevirtual 206, 3) from ds_dec (i := (316, .invokevirtual 206, 3, 0, 0, 976, .int 0)) ok_X9_seek 165 rfl) (ds_E.mono h (fun r σ1 hr => ?_)) ⟨zw_X9_isLesserRow.1, zw_X9_isLesserRow.2.1, zw_X9_isLesserRow.2.2, by decide, by decide⟩ (ds_wb_T (p := 976) (by decide +kernel)) zi_X9_isLesserRow zs_X9_isLesserRow (by decide) rfl ⟨_, rfl, rfl⟩ (Nat.le_of_ble_eq_true rfl)
          obtain ⟨r1, rfl, h⟩ := hr
          show ds_X mt_X9_seek Ym 319 [some (.ref 0), some (.int v1), some (.int v2), some (.int v3), some (.int v4), some (.int v5), some (.int v6), g7, some (.int v8), some (.int v9), some (.int t0), g11] [.int r1] σ1 Q
          refine ds_if_eq (show decode mt_X9_seek.2.1 319 = .ok (.ifCond .eq 55, 3) from ds_dec (i := (319, .ifCond .eq 55, 3, 0, 0, 0, .int 0)) ok_X9_seek 166 rfl) (t := 374) (by decide) (fun hc => ?_) (fun hc => ?_)
          · replace h := h.1 hc
            refine ds_blk (ls2 := [some (.ref 0), some (.int v1), some (.int v2), some (.int v3), some (.int v4), some (.int v5), some (.int (v6 + (1 : Int32))), g7, some (.int v8), some (.int v9), some (.int t0), g11]) (st2 := []) (σ2 := σ1) ok_X9_seek 193 1 374 377 [] rfl rfl rfl rfl trivial ?_
            refine ds_goto (show decode mt_X9_seek.2.1 377 = .ok (.goto (-248), 3) from ds_dec (i := (377, .goto (-248), 3, 0, 0, 0, .int 0)) ok_X9_seek 194 rfl) (t := 129) (by decide) ?_
            exact hK129 v1 v2 v3 v4 v5 (v6 + (1 : Int32)) _ _ _ _ _ σ1 h
          · replace h := h.2 hc
            refine x_X9_seek_322 v1 v2 v3 v4 v6 v8 _ _ _ _ _ σ1 Q K129 hK129 h
def w_X9_seek_253 (v1 : Int32) (v2 : Int32) (v3 : Int32) (v4 : Int32) (v5 : Int32) (v6 : Int32) (v8 : Int32) (t0 : Int32) (σ : ds_S) (Q : Option Value → ds_S → Prop) (K129 : Int32 → Int32 → Int32 → Int32 → Int32 → Int32 → ds_S → Prop) : Prop := ((v5 < 0 → w_X9_seek_289 v1 v2 v3 v4 v5 v6 v8 t0 (0 : Int32) σ Q K129) ∧ (¬ v5 < 0 → ((¬ (lg_cmp (σ.2 0 22) (σ.2 0 28)) = 0 → w_X9_seek_289 v1 v2 v3 v4 v5 v6 v8 t0 (0 : Int32) σ Q K129) ∧ ((lg_cmp (σ.2 0 22) (σ.2 0 28)) = 0 → ((¬ (lg_cmp (σ.2 0 23) (σ.2 0 29)) = 0 → w_X9_seek_289 v1 v2 v3 v4 v5 v6 v8 t0 (0 : Int32) σ Q K129) ∧ ((lg_cmp (σ.2 0 23) (σ.2 0 29)) = 0 → w_X9_seek_289 v1 v2 v3 v4 v5 v6 v8 t0 (1 : Int32) σ Q K129))))))
theorem x_X9_seek_253 (v1 : Int32) (v2 : Int32) (v3 : Int32) (v4 : Int32) (v5 : Int32) (v6 : Int32) (v8 : Int32) (t0 : Int32) (g7 : Option Value) (g9 : Option Value) (g10 : Option Value) (g11 : Option Value) (σ : ds_S) (Q : Option Value → ds_S → Prop) (K129 : Int32 → Int32 → Int32 → Int32 → Int32 → Int32 → ds_S → Prop) (hK129 : ∀ (v1 : Int32) (v2 : Int32) (v3 : Int32) (v4 : Int32) (v5 : Int32) (v6 : Int32) (g7 : Option Value) (g8 : Option Value) (g9 : Option Value) (g10 : Option Value) (g11 : Option Value) (σ2 : ds_S), K129 v1 v2 v3 v4 v5 v6 σ2 → ds_X mt_X9_seek Ym 129 [some (.ref 0), some (.int v1), some (.int v2), some (.int v3), some (.int v4), some (.int v5), some (.int v6), g7, g8, g9, g10, g11] [] σ2 Q) (h : w_X9_seek_253 v1 v2 v3 v4 v5 v6 v8 t0 σ Q K129) : ds_X mt_X9_seek Ym 253 [some (.ref 0), some (.int v1), some (.int v2), some (.int v3), some (.int v4), some (.int v5), some (.int v6), g7, some (.int v8), g9, g10, g11] [.int t0] σ Q := by
  unfold w_X9_seek_253 at h
  refine ds_blk (ls2 := [some (.ref 0), some (.int v1), some (.int v2), some (.int v3), some (.int v4), some (.int v5), some (.int v6), g7, some (.int v8), some (.int t0), g10, g11]) (st2 := [.int v5]) (σ2 := σ) ok_X9_seek 135 2 253 257 [] rfl rfl rfl rfl trivial ?_
  refine ds_if_lt (show decode mt_X9_seek.2.1 257 = .ok (.ifCond .lt 31, 3) from ds_dec (i := (257, .ifCond .lt 31, 3, 0, 0, 0, .int 0)) ok_X9_seek 137 rfl) (t := 288) (by decide) (fun hc => ?_) (fun hc => ?_)
  · replace h := h.1 hc
    refine ds_blk (ls2 := [some (.ref 0), some (.int v1), some (.int v2), some (.int v3), some (.int v4), some (.int v5), some (.int v6), g7, some (.int v8), some (.int t0), g10, g11]) (st2 := [.int (0 : Int32)]) (σ2 := σ) ok_X9_seek 152 1 288 289 [] rfl rfl rfl rfl trivial ?_
    refine x_X9_seek_289 v1 v2 v3 v4 v5 v6 v8 t0 (0 : Int32) _ _ _ σ Q K129 hK129 h
  · replace h := h.2 hc
    refine ds_blk (ls2 := [some (.ref 0), some (.int v1), some (.int v2), some (.int v3), some (.int v4), some (.int v5), some (.int v6), g7, some (.int v8), some (.int t0), g10, g11]) (st2 := [.int (lg_cmp (σ.2 0 22) (σ.2 0 28))]) (σ2 := σ) ok_X9_seek 138 5 260 269 [ds_k Ym 0 9, ds_k Ym 0 9] rfl rfl rfl rfl ⟨⟨by decide, rfl⟩, ⟨by decide, rfl⟩, trivial⟩ ?_
    refine ds_if_ne (show decode mt_X9_seek.2.1 269 = .ok (.ifCond .ne 19, 3) from ds_dec (i := (269, .ifCond .ne 19, 3, 0, 0, 0, .int 0)) ok_X9_seek 143 rfl) (t := 288) (by decide) (fun hc => ?_) (fun hc => ?_)
    · replace h := h.1 hc
      refine ds_blk (ls2 := [some (.ref 0), some (.int v1), some (.int v2), some (.int v3), some (.int v4), some (.int v5), some (.int v6), g7, some (.int v8), some (.int t0), g10, g11]) (st2 := [.int (0 : Int32)]) (σ2 := σ) ok_X9_seek 152 1 288 289 [] rfl rfl rfl rfl trivial ?_
      refine x_X9_seek_289 v1 v2 v3 v4 v5 v6 v8 t0 (0 : Int32) _ _ _ σ Q K129 hK129 h
    · replace h := h.2 hc
      refine ds_blk (ls2 := [some (.ref 0), some (.int v1), some (.int v2), some (.int v3), some (.int v4), some (.int v5), some (.int v6), g7, some (.int v8), some (.int t0), g10, g11]) (st2 := [.int (lg_cmp (σ.2 0 23) (σ.2 0 29))]) (σ2 := σ) ok_X9_seek 144 5 272 281 [ds_k Ym 0 9, ds_k Ym 0 9] rfl rfl rfl rfl ⟨⟨by decide, rfl⟩, ⟨by decide, rfl⟩, trivial⟩ ?_
      refine ds_if_ne (show decode mt_X9_seek.2.1 281 = .ok (.ifCond .ne 7, 3) from ds_dec (i := (281, .ifCond .ne 7, 3, 0, 0, 0, .int 0)) ok_X9_seek 149 rfl) (t := 288) (by decide) (fun hc => ?_) (fun hc => ?_)
      · replace h := h.1 hc
        refine ds_blk (ls2 := [some (.ref 0), some (.int v1), some (.int v2), some (.int v3), some (.int v4), some (.int v5), some (.int v6), g7, some (.int v8), some (.int t0), g10, g11]) (st2 := [.int (0 : Int32)]) (σ2 := σ) ok_X9_seek 152 1 288 289 [] rfl rfl rfl rfl trivial ?_
        refine x_X9_seek_289 v1 v2 v3 v4 v5 v6 v8 t0 (0 : Int32) _ _ _ σ Q K129 hK129 h
      · replace h := h.2 hc
        refine ds_blk (ls2 := [some (.ref 0), some (.int v1), some (.int v2), some (.int v3), some (.int v4), some (.int v5), some (.int v6), g7, some (.int v8), some (.int t0), g10, g11]) (st2 := [.int (1 : Int32)]) (σ2 := σ) ok_X9_seek 150 1 284 285 [] rfl rfl rfl rfl trivial ?_
        refine ds_goto (show decode mt_X9_seek.2.1 285 = .ok (.goto 4, 3) from ds_dec (i := (285, .goto 4, 3, 0, 0, 0, .int 0)) ok_X9_seek 151 rfl) (t := 289) (by decide) ?_
        refine x_X9_seek_289 v1 v2 v3 v4 v5 v6 v8 t0 (1 : Int32) _ _ _ σ Q K129 hK129 h
def w_X9_seek_129 : Nat → (v1 : Int32) → (v2 : Int32) → (v3 : Int32) → (v4 : Int32) → (v5 : Int32) → (v6 : Int32) → (σ : ds_S) → (Q : Option Value → ds_S → Prop) → (K380 : Int32 → ds_S → Prop) → Prop
  | 0, _, _, _, _, _, _, _, _, _ => False
  | f + 1, v1, v2, v3, v4, v5, v6, σ, Q, K380 => ((v4 ≤ v6 → K380 v5 σ) ∧ (¬ v4 ≤ v6 → ∃ n, w_X9_seek_143 n v1 v2 v3 v4 v5 v6 v6 (0 : Int32) σ Q (fun v1_1 v2_1 v3_1 v4_1 v5_1 v6_1 σ1 => ds_EI mt_X9_changes Ym [.ref 0] σ1 (fun r2 σ2 => ((v2_1 < r2 → w_X9_seek_129 f v1_1 v2_1 v3_1 v4_1 v5_1 (v6_1 + (1 : Int32)) σ2 Q K380) ∧ (¬ v2_1 < r2 → ds_EV mt_X9_findAll Ym [.ref 0] σ2 (fun σ3 => ((v5_1 < 0 → w_X9_seek_253 v1_1 v2_1 v3_1 v4_1 v5_1 v6_1 r2 (1 : Int32) σ3 Q (fun v1_4 v2_4 v3_4 v4_4 v5_4 v6_4 σ4 => w_X9_seek_129 f v1_4 v2_4 v3_4 v4_4 v5_4 v6_4 σ4 Q K380)) ∧ (¬ v5_1 < 0 → 0 ≤ (σ3.2 0 28) ∧ 0 < (σ3.2 0 29) ∧ 0 ≤ (σ3.2 0 22) ∧ 0 < (σ3.2 0 23) ∧ (((q_gt (σ3.2 0 28) (σ3.2 0 29) (σ3.2 0 22) (σ3.2 0 23)) = 0 → w_X9_seek_253 v1_1 v2_1 v3_1 v4_1 v5_1 v6_1 r2 (0 : Int32) σ3 Q (fun v1_6 v2_6 v3_6 v4_6 v5_6 v6_6 σ6 => w_X9_seek_129 f v1_6 v2_6 v3_6 v4_6 v5_6 v6_6 σ6 Q K380)) ∧ (¬ (q_gt (σ3.2 0 28) (σ3.2 0 29) (σ3.2 0 22) (σ3.2 0 23)) = 0 → w_X9_seek_253 v1_1 v2_1 v3_1 v4_1 v5_1 v6_1 r2 (1 : Int32) σ3 Q (fun v1_7 v2_7 v3_7 v4_7 v5_7 v6_7 σ7 => w_X9_seek_129 f v1_7 v2_7 v3_7 v4_7 v5_7 v6_7 σ7 Q K380))))))))))))
theorem x_X9_seek_129 : ∀ (f : Nat) (v1 : Int32) (v2 : Int32) (v3 : Int32) (v4 : Int32) (v5 : Int32) (v6 : Int32) (g7 : Option Value) (g8 : Option Value) (g9 : Option Value) (g10 : Option Value) (g11 : Option Value) (σ : ds_S) (Q : Option Value → ds_S → Prop) (K380 : Int32 → ds_S → Prop) (hK380 : ∀ (v5 : Int32) (g1 : Option Value) (g2 : Option Value) (g3 : Option Value) (g4 : Option Value) (g6 : Option Value) (g7 : Option Value) (g8 : Option Value) (g9 : Option Value) (g10 : Option Value) (g11 : Option Value) (σ2 : ds_S), K380 v5 σ2 → ds_X mt_X9_seek Ym 380 [some (.ref 0), g1, g2, g3, g4, some (.int v5), g6, g7, g8, g9, g10, g11] [] σ2 Q), w_X9_seek_129 f v1 v2 v3 v4 v5 v6 σ Q K380 → ds_X mt_X9_seek Ym 129 [some (.ref 0), some (.int v1), some (.int v2), some (.int v3), some (.int v4), some (.int v5), some (.int v6), g7, g8, g9, g10, g11] [] σ Q := by
  intro f
  induction f with
  | zero => intro v1 v2 v3 v4 v5 v6 g7 g8 g9 g10 g11 σ Q K380 hK380 h; exact False.elim h
  | succ f ih =>
    intro v1 v2 v3 v4 v5 v6 g7 g8 g9 g10 g11 σ Q K380 hK380 h
    rw [w_X9_seek_129] at h
    refine ds_blk (ls2 := [some (.ref 0), some (.int v1), some (.int v2), some (.int v3), some (.int v4), some (.int v5), some (.int v6), g7, g8, g9, g10, g11]) (st2 := [.int v4, .int v6]) (σ2 := σ) ok_X9_seek 70 2 129 133 [] rfl rfl rfl rfl trivial ?_
    refine ds_ic_ge (show decode mt_X9_seek.2.1 133 = .ok (.if_icmp .ge 247, 3) from ds_dec (i := (133, .if_icmp .ge 247, 3, 0, 0, 0, .int 0)) ok_X9_seek 72 rfl) (t := 380) (by decide) (fun hc => ?_) (fun hc => ?_)
    · replace h := h.1 hc
      exact hK380 v5 _ _ _ _ _ _ _ _ _ _ σ h
    · replace h := h.2 hc
      refine ds_blk (ls2 := [some (.ref 0), some (.int v1), some (.int v2), some (.int v3), some (.int v4), some (.int v5), some (.int v6), some (.int v6), some (.int (0 : Int32)), g9, g10, g11]) (st2 := []) (σ2 := σ) ok_X9_seek 73 4 136 143 [] rfl rfl rfl rfl trivial ?_
      obtain ⟨n, h⟩ := h
      refine x_X9_seek_143 n v1 v2 v3 v4 v5 v6 v6 (0 : Int32) _ _ _ σ Q _ ?_ h
      · intro v1_1 v2_1 v3_1 v4_1 v5_1 v6_1 g7_1 g8_1 g9_1 g10_1 g11_1 σ1 h
        refine ds_blk (ls2 := [some (.ref 0), some (.int v1_1), some (.int v2_1), some (.int v3_1), some (.int v4_1), some (.int v5_1), some (.int v6_1), g7_1, g8_1, g9_1, g10_1, g11_1]) (st2 := [.ref 0]) (σ2 := σ1) ok_X9_seek 112 1 205 206 [] rfl rfl rfl rfl trivial ?_
        refine ds_callV (z := mt_X9_changes) (b := 0) (as := []) (rest := []) (show decode mt_X9_seek.2.1 206 = .ok (.invokevirtual 196, 3) from ds_dec (i := (206, .invokevirtual 196, 3, 0, 0, 972, .int 0)) ok_X9_seek 113 rfl) (ds_E.mono h (fun r σ2 hr => ?_)) ⟨zw_X9_changes.1, zw_X9_changes.2.1, zw_X9_changes.2.2, by decide, by decide⟩ (ds_wb_T (p := 972) (by decide +kernel)) zi_X9_changes zs_X9_changes (by decide) rfl ⟨_, rfl, rfl⟩ (Nat.le_of_ble_eq_true rfl)
        obtain ⟨r2, rfl, h⟩ := hr
        show ds_X mt_X9_seek Ym 209 [some (.ref 0), some (.int v1_1), some (.int v2_1), some (.int v3_1), some (.int v4_1), some (.int v5_1), some (.int v6_1), g7_1, g8_1, g9_1, g10_1, g11_1] [.int r2] σ2 Q
        refine ds_blk (ls2 := [some (.ref 0), some (.int v1_1), some (.int v2_1), some (.int v3_1), some (.int v4_1), some (.int v5_1), some (.int v6_1), (ds_nl g7_1), some (.int r2), g9_1, g10_1, g11_1]) (st2 := [.int v2_1, .int r2]) (σ2 := σ2) ok_X9_seek 114 3 209 214 [] rfl rfl rfl rfl trivial ?_
        refine ds_ic_gt (show decode mt_X9_seek.2.1 214 = .ok (.if_icmp .gt 160, 3) from ds_dec (i := (214, .if_icmp .gt 160, 3, 0, 0, 0, .int 0)) ok_X9_seek 117 rfl) (t := 374) (by decide) (fun hc => ?_) (fun hc => ?_)
        · replace h := h.1 hc
          refine ds_blk (ls2 := [some (.ref 0), some (.int v1_1), some (.int v2_1), some (.int v3_1), some (.int v4_1), some (.int v5_1), some (.int (v6_1 + (1 : Int32))), (ds_nl g7_1), some (.int r2), g9_1, g10_1, g11_1]) (st2 := []) (σ2 := σ2) ok_X9_seek 193 1 374 377 [] rfl rfl rfl rfl trivial ?_
          refine ds_goto (show decode mt_X9_seek.2.1 377 = .ok (.goto (-248), 3) from ds_dec (i := (377, .goto (-248), 3, 0, 0, 0, .int 0)) ok_X9_seek 194 rfl) (t := 129) (by decide) ?_
          exact ih v1_1 v2_1 v3_1 v4_1 v5_1 (v6_1 + (1 : Int32)) _ _ _ _ _ σ2 Q K380 hK380 h
        · replace h := h.2 hc
          refine ds_blk (ls2 := [some (.ref 0), some (.int v1_1), some (.int v2_1), some (.int v3_1), some (.int v4_1), some (.int v5_1), some (.int v6_1), (ds_nl g7_1), some (.int r2), g9_1, g10_1, g11_1]) (st2 := [.ref 0]) (σ2 := σ2) ok_X9_seek 118 1 217 218 [] rfl rfl rfl rfl trivial ?_
          refine ds_callV (z := mt_X9_findAll) (b := 0) (as := []) (rest := []) (show decode mt_X9_seek.2.1 218 = .ok (.invokevirtual 187, 3) from ds_dec (i := (218, .invokevirtual 187, 3, 0, 0, 954, .int 0)) ok_X9_seek 119 rfl) (ds_E.mono h (fun r σ3 hr => ?_)) ⟨zw_X9_findAll.1, zw_X9_findAll.2.1, zw_X9_findAll.2.2, by decide, by decide⟩ (ds_wb_T (p := 954) (by decide +kernel)) zi_X9_findAll zs_X9_findAll (by decide) rfl ⟨_, rfl, rfl⟩ (Nat.le_of_ble_eq_true rfl)
          obtain ⟨rfl, h⟩ := hr
          show ds_X mt_X9_seek Ym 221 [some (.ref 0), some (.int v1_1), some (.int v2_1), some (.int v3_1), some (.int v4_1), some (.int v5_1), some (.int v6_1), (ds_nl g7_1), some (.int r2), g9_1, g10_1, g11_1] [] σ3 Q
          refine ds_blk (ls2 := [some (.ref 0), some (.int v1_1), some (.int v2_1), some (.int v3_1), some (.int v4_1), some (.int v5_1), some (.int v6_1), (ds_nl g7_1), some (.int r2), g9_1, g10_1, g11_1]) (st2 := [.int v5_1]) (σ2 := σ3) ok_X9_seek 120 1 221 223 [] rfl rfl rfl rfl trivial ?_
          refine ds_if_lt (show decode mt_X9_seek.2.1 223 = .ok (.ifCond .lt 25, 3) from ds_dec (i := (223, .ifCond .lt 25, 3, 0, 0, 0, .int 0)) ok_X9_seek 121 rfl) (t := 248) (by decide) (fun hc => ?_) (fun hc => ?_)
          · replace h := h.1 hc
            refine ds_blk (ls2 := [some (.ref 0), some (.int v1_1), some (.int v2_1), some (.int v3_1), some (.int v4_1), some (.int v5_1), some (.int v6_1), (ds_nl g7_1), some (.int r2), g9_1, g10_1, g11_1]) (st2 := [.int (1 : Int32)]) (σ2 := σ3) ok_X9_seek 132 1 248 249 [] rfl rfl rfl rfl trivial ?_
            refine ds_goto (show decode mt_X9_seek.2.1 249 = .ok (.goto 4, 3) from ds_dec (i := (249, .goto 4, 3, 0, 0, 0, .int 0)) ok_X9_seek 133 rfl) (t := 253) (by decide) ?_
            refine x_X9_seek_253 v1_1 v2_1 v3_1 v4_1 v5_1 v6_1 r2 (1 : Int32) _ _ _ _ σ3 Q _ ?_ h
            · intro v1_4 v2_4 v3_4 v4_4 v5_4 v6_4 g7_4 g8_4 g9_4 g10_4 g11_4 σ4 h
              exact ih v1_4 v2_4 v3_4 v4_4 v5_4 v6_4 _ _ _ _ _ σ4 Q K380 hK380 h
          · replace h := h.2 hc
            refine ds_blk (ls2 := [some (.ref 0), some (.int v1_1), some (.int v2_1), some (.int v3_1), some (.int v4_1), some (.int v5_1), some (.int v6_1), (ds_nl g7_1), some (.int r2), g9_1, g10_1, g11_1]) (st2 := [.long (σ3.2 0 23), .long (σ3.2 0 22), .long (σ3.2 0 29), .long (σ3.2 0 28)]) (σ2 := σ3) ok_X9_seek 122 8 226 242 [ds_k Ym 0 9, ds_k Ym 0 9, ds_k Ym 0 9, ds_k Ym 0 9] rfl rfl rfl rfl ⟨⟨by decide, rfl⟩, ⟨by decide, rfl⟩, ⟨by decide, rfl⟩, ⟨by decide, rfl⟩, trivial⟩ ?_
            obtain ⟨o1, o2, o3, o4, h⟩ := h
            refine ds_callS (z := mt_X9_isGreater) (as := [.long (σ3.2 0 28), .long (σ3.2 0 29), .long (σ3.2 0 22), .long (σ3.2 0 23)]) (rest := []) (show decode mt_X9_seek.2.1 242 = .ok (.invokestatic 161, 3) from ds_dec (i := (242, .invokestatic 161, 3, 0, 0, 942, .int 0)) ok_X9_seek 130 rfl) (ds_E.mono (sp_X9_isGreater (σ3.2 0 28) (σ3.2 0 29) (σ3.2 0 22) (σ3.2 0 23) σ3 o1 o2 o3 o4) (fun r σ5 hr => ?_)) ⟨zw_X9_isGreater.1, zw_X9_isGreater.2.1, zw_X9_isGreater.2.2, by decide, by decide⟩ (ds_wb_T (p := 942) (by decide +kernel)) zt_X9_isGreater (Nat.le_of_ble_eq_true rfl)
            obtain ⟨x9, rfl, e8, e9⟩ := hr
            rw [e8, e9]
            show ds_X mt_X9_seek Ym 245 [some (.ref 0), some (.int v1_1), some (.int v2_1), some (.int v3_1), some (.int v4_1), some (.int v5_1), some (.int v6_1), (ds_nl g7_1), some (.int r2), g9_1, g10_1, g11_1] [.int (q_gt (σ3.2 0 28) (σ3.2 0 29) (σ3.2 0 22) (σ3.2 0 23))] σ3 Q
            refine ds_if_eq (show decode mt_X9_seek.2.1 245 = .ok (.ifCond .eq 7, 3) from ds_dec (i := (245, .ifCond .eq 7, 3, 0, 0, 0, .int 0)) ok_X9_seek 131 rfl) (t := 252) (by decide) (fun hc => ?_) (fun hc => ?_)
            · replace h := h.1 hc
              refine ds_blk (ls2 := [some (.ref 0), some (.int v1_1), some (.int v2_1), some (.int v3_1), some (.int v4_1), some (.int v5_1), some (.int v6_1), (ds_nl g7_1), some (.int r2), g9_1, g10_1, g11_1]) (st2 := [.int (0 : Int32)]) (σ2 := σ3) ok_X9_seek 134 1 252 253 [] rfl rfl rfl rfl trivial ?_
              refine x_X9_seek_253 v1_1 v2_1 v3_1 v4_1 v5_1 v6_1 r2 (0 : Int32) _ _ _ _ σ3 Q _ ?_ h
              · intro v1_6 v2_6 v3_6 v4_6 v5_6 v6_6 g7_6 g8_6 g9_6 g10_6 g11_6 σ6 h
                exact ih v1_6 v2_6 v3_6 v4_6 v5_6 v6_6 _ _ _ _ _ σ6 Q K380 hK380 h
            · replace h := h.2 hc
              refine ds_blk (ls2 := [some (.ref 0), some (.int v1_1), some (.int v2_1), some (.int v3_1), some (.int v4_1), some (.int v5_1), some (.int v6_1), (ds_nl g7_1), some (.int r2), g9_1, g10_1, g11_1]) (st2 := [.int (1 : Int32)]) (σ2 := σ3) ok_X9_seek 132 1 248 249 [] rfl rfl rfl rfl trivial ?_
              refine ds_goto (show decode mt_X9_seek.2.1 249 = .ok (.goto 4, 3) from ds_dec (i := (249, .goto 4, 3, 0, 0, 0, .int 0)) ok_X9_seek 133 rfl) (t := 253) (by decide) ?_
              refine x_X9_seek_253 v1_1 v2_1 v3_1 v4_1 v5_1 v6_1 r2 (1 : Int32) _ _ _ _ σ3 Q _ ?_ h
              · intro v1_7 v2_7 v3_7 v4_7 v5_7 v6_7 g7_7 g8_7 g9_7 g10_7 g11_7 σ7 h
                exact ih v1_7 v2_7 v3_7 v4_7 v5_7 v6_7 _ _ _ _ _ σ7 Q K380 hK380 h
def w_X9_seek_383 : Nat → (v5 : Int32) → (v6 : Int32) → (σ : ds_S) → (Q : Option Value → ds_S → Prop) → Prop
  | 0, _, _, _, _ => False
  | f + 1, v5, v6, σ, Q => (((σ.1 0 7) ≤ v6 → Q (some (.int v5)) (ds_wi σ 0 10 (1 : Int32))) ∧ (¬ (σ.1 0 7) ≤ v6 → vp_in v6 10 ∧ vp_in v6 10 ∧ w_X9_seek_383 f v5 (v6 + (1 : Int32)) (ds_wi σ 4 v6.toNatClampNeg (σ.1 14 v6.toNatClampNeg)) Q))
theorem x_X9_seek_383 : ∀ (f : Nat) (v5 : Int32) (v6 : Int32) (g1 : Option Value) (g2 : Option Value) (g3 : Option Value) (g4 : Option Value) (g7 : Option Value) (g8 : Option Value) (g9 : Option Value) (g10 : Option Value) (g11 : Option Value) (σ : ds_S) (Q : Option Value → ds_S → Prop), w_X9_seek_383 f v5 v6 σ Q → ds_X mt_X9_seek Ym 383 [some (.ref 0), g1, g2, g3, g4, some (.int v5), some (.int v6), g7, g8, g9, g10, g11] [] σ Q := by
  intro f
  induction f with
  | zero => intro v5 v6 g1 g2 g3 g4 g7 g8 g9 g10 g11 σ Q h; exact False.elim h
  | succ f ih =>
    intro v5 v6 g1 g2 g3 g4 g7 g8 g9 g10 g11 σ Q h
    rw [w_X9_seek_383] at h
    refine ds_blk (ls2 := [some (.ref 0), g1, g2, g3, g4, some (.int v5), some (.int v6), g7, g8, g9, g10, g11]) (st2 := [.int (σ.1 0 7), .int v6]) (σ2 := σ) ok_X9_seek 197 3 383 389 [ds_k Ym 0 9] rfl rfl rfl rfl ⟨⟨by decide, rfl⟩, trivial⟩ ?_
    refine ds_ic_ge (show decode mt_X9_seek.2.1 389 = .ok (.if_icmp .ge 23, 3) from ds_dec (i := (389, .if_icmp .ge 23, 3, 0, 0, 0, .int 0)) ok_X9_seek 200 rfl) (t := 412) (by decide) (fun hc => ?_) (fun hc => ?_)
    · replace h := h.1 hc
      refine ds_blk (ls2 := [some (.ref 0), g1, g2, g3, g4, some (.int v5), some (.int v6), g7, g8, g9, g10, g11]) (st2 := [.int v5]) (σ2 := (ds_wi σ 0 10 (1 : Int32))) ok_X9_seek 211 4 412 419 [ds_k Ym 0 9, (1 : Int32) = 0 ∨ (1 : Int32) = 1] rfl rfl rfl rfl ⟨⟨by decide, rfl⟩, (by decide), trivial⟩ ?_
      exact ds_iret (show decode mt_X9_seek.2.1 419 = .ok (.ireturn, 1) from ds_dec (i := (419, .ireturn, 1, 0, 0, 0, .int 0)) ok_X9_seek 215 rfl) rfl h
    · replace h := h.2 hc
      obtain ⟨o1, o2, h⟩ := h
      refine ds_blk (ls2 := [some (.ref 0), g1, g2, g3, g4, some (.int v5), some (.int (v6 + (1 : Int32))), g7, g8, g9, g10, g11]) (st2 := []) (σ2 := (ds_wi σ 4 v6.toNatClampNeg (σ.1 14 v6.toNatClampNeg))) ok_X9_seek 201 9 392 409 [ds_k Ym 0 9, ds_k Ym 0 9, ds_k Ym 14 10, vp_in v6 10, ds_k Ym 4 10, vp_in v6 10] rfl rfl rfl rfl ⟨⟨by decide, rfl⟩, ⟨by decide, rfl⟩, ⟨by decide, rfl⟩, o1, ⟨by decide, rfl⟩, o2, trivial⟩ ?_
      refine ds_goto (show decode mt_X9_seek.2.1 409 = .ok (.goto (-26), 3) from ds_dec (i := (409, .goto (-26), 3, 0, 0, 0, .int 0)) ok_X9_seek 210 rfl) (t := 383) (by decide) ?_
      exact ih v5 (v6 + (1 : Int32)) _ _ _ _ _ _ _ _ _ (ds_wi σ 4 v6.toNatClampNeg (σ.1 14 v6.toNatClampNeg)) Q h
def w_X9_seek (a1 : Int32) (a2 : Int32) (σ : ds_S) (Q : Option Value → ds_S → Prop) : Prop := (((q_in a1.toInt64 (1 : Int64) (2 : Int64)) = 0 → Q (some (.int (-2 : Int32))) σ) ∧ (¬ (q_in a1.toInt64 (1 : Int64) (2 : Int64)) = 0 → ((¬ (q_in a2.toInt64 (0 : Int64) (10 : Int64)) = 0 → ∃ n, w_X9_seek_32 n a1 a2 (0 : Int32) (0 : Int32) σ Q (fun v1_3 v2_3 v3_3 σ3 => ∃ n, w_X9_seek_103 n v1_3 v2_3 v3_3 (1 : Int32) (0 : Int32) σ3 Q (fun v1_4 v2_4 v3_4 v4_4 σ4 => ∃ n, w_X9_seek_129 n v1_4 v2_4 v3_4 v4_4 (-1 : Int32) (0 : Int32) σ4 Q (fun v5_5 σ5 => ∃ n, w_X9_seek_383 n v5_5 (0 : Int32) σ5 Q)))) ∧ ((q_in a2.toInt64 (0 : Int64) (10 : Int64)) = 0 → Q (some (.int (-2 : Int32))) σ))))
theorem e_X9_seek (a1 : Int32) (a2 : Int32) (σ : ds_S) (Q : Option Value → ds_S → Prop) (h : w_X9_seek a1 a2 σ Q) : ds_E mt_X9_seek Ym [.ref 0, .int a1, .int a2] σ Q := by
  refine ds_enter (by decide) (Nat.le_of_ble_eq_true rfl) ?_
  show ds_X mt_X9_seek Ym 0 [some (.ref 0), some (.int a1), some (.int a2), none, none, none, none, none, none, none, none, none] [] σ Q
  unfold w_X9_seek at h
  refine ds_blk (ls2 := [some (.ref 0), some (.int a1), some (.int a2), none, none, none, none, none, none, none, none, none]) (st2 := [.long (2 : Int64), .long (1 : Int64), .long a1.toInt64]) (σ2 := σ) ok_X9_seek 0 4 0 6 [] rfl rfl rfl rfl trivial ?_
  refine ds_callS (z := mt_X9_in) (as := [.long a1.toInt64, .long (1 : Int64), .long (2 : Int64)]) (rest := []) (show decode mt_X9_seek.2.1 6 = .ok (.invokestatic 73, 3) from ds_dec (i := (6, .invokestatic 73, 3, 0, 0, 836, .int 0)) ok_X9_seek 4 rfl) (ds_E.mono (sp_X9_in a1.toInt64 (1 : Int64) (2 : Int64) σ ) (fun r σ1 hr => ?_)) ⟨zw_X9_in.1, zw_X9_in.2.1, zw_X9_in.2.2, by decide, by decide⟩ (ds_wb_T (p := 836) (by decide +kernel)) zt_X9_in (Nat.le_of_ble_eq_true rfl)
  obtain ⟨x9, rfl, e8, e9⟩ := hr
  rw [e8, e9]
  show ds_X mt_X9_seek Ym 9 [some (.ref 0), some (.int a1), some (.int a2), none, none, none, none, none, none, none, none, none] [.int (q_in a1.toInt64 (1 : Int64) (2 : Int64))] σ Q
  refine ds_if_eq (show decode mt_X9_seek.2.1 9 = .ok (.ifCond .eq 15, 3) from ds_dec (i := (9, .ifCond .eq 15, 3, 0, 0, 0, .int 0)) ok_X9_seek 5 rfl) (t := 24) (by decide) (fun hc => ?_) (fun hc => ?_)
  · replace h := h.1 hc
    refine ds_blk (ls2 := [some (.ref 0), some (.int a1), some (.int a2), none, none, none, none, none, none, none, none, none]) (st2 := [.int (-2 : Int32)]) (σ2 := σ) ok_X9_seek 12 1 24 26 [] rfl rfl rfl rfl trivial ?_
    exact ds_iret (show decode mt_X9_seek.2.1 26 = .ok (.ireturn, 1) from ds_dec (i := (26, .ireturn, 1, 0, 0, 0, .int 0)) ok_X9_seek 13 rfl) rfl h
  · replace h := h.2 hc
    refine ds_blk (ls2 := [some (.ref 0), some (.int a1), some (.int a2), none, none, none, none, none, none, none, none, none]) (st2 := [.long (10 : Int64), .long (0 : Int64), .long a2.toInt64]) (σ2 := σ) ok_X9_seek 6 4 12 18 [] rfl rfl rfl rfl trivial ?_
    refine ds_callS (z := mt_X9_in) (as := [.long a2.toInt64, .long (0 : Int64), .long (10 : Int64)]) (rest := []) (show decode mt_X9_seek.2.1 18 = .ok (.invokestatic 73, 3) from ds_dec (i := (18, .invokestatic 73, 3, 0, 0, 836, .int 0)) ok_X9_seek 10 rfl) (ds_E.mono (sp_X9_in a2.toInt64 (0 : Int64) (10 : Int64) σ ) (fun r σ2 hr => ?_)) ⟨zw_X9_in.1, zw_X9_in.2.1, zw_X9_in.2.2, by decide, by decide⟩ (ds_wb_T (p := 836) (by decide +kernel)) zt_X9_in (Nat.le_of_ble_eq_true rfl)
    obtain ⟨x9, rfl, e8, e9⟩ := hr
    rw [e8, e9]
    show ds_X mt_X9_seek Ym 21 [some (.ref 0), some (.int a1), some (.int a2), none, none, none, none, none, none, none, none, none] [.int (q_in a2.toInt64 (0 : Int64) (10 : Int64))] σ Q
    refine ds_if_ne (show decode mt_X9_seek.2.1 21 = .ok (.ifCond .ne 6, 3) from ds_dec (i := (21, .ifCond .ne 6, 3, 0, 0, 0, .int 0)) ok_X9_seek 11 rfl) (t := 27) (by decide) (fun hc => ?_) (fun hc => ?_)
    · replace h := h.1 hc
      refine ds_blk (ls2 := [some (.ref 0), some (.int a1), some (.int a2), some (.int (0 : Int32)), some (.int (0 : Int32)), none, none, none, none, none, none, none]) (st2 := []) (σ2 := σ) ok_X9_seek 14 4 27 32 [] rfl rfl rfl rfl trivial ?_
      obtain ⟨n, h⟩ := h
      refine x_X9_seek_32 n a1 a2 (0 : Int32) (0 : Int32) _ _ _ _ _ _ _ σ Q _ ?_ h
      · intro v1_3 v2_3 v3_3 g4_3 g5_3 g6_3 g7_3 g8_3 g9_3 g10_3 g11_3 σ3 h
        refine ds_blk (ls2 := [some (.ref 0), some (.int v1_3), some (.int v2_3), some (.int v3_3), some (.int (1 : Int32)), some (.int (0 : Int32)), g6_3, g7_3, g8_3, g9_3, g10_3, g11_3]) (st2 := []) (σ2 := σ3) ok_X9_seek 51 4 97 103 [] rfl rfl rfl rfl trivial ?_
        obtain ⟨n, h⟩ := h
        refine x_X9_seek_103 n v1_3 v2_3 v3_3 (1 : Int32) (0 : Int32) _ _ _ _ _ _ σ3 Q _ ?_ h
        · intro v1_4 v2_4 v3_4 v4_4 g5_4 g6_4 g7_4 g8_4 g9_4 g10_4 g11_4 σ4 h
          refine ds_blk (ls2 := [some (.ref 0), some (.int v1_4), some (.int v2_4), some (.int v3_4), some (.int v4_4), some (.int (-1 : Int32)), some (.int (0 : Int32)), g7_4, g8_4, g9_4, g10_4, g11_4]) (st2 := []) (σ2 := σ4) ok_X9_seek 66 4 123 129 [] rfl rfl rfl rfl trivial ?_
          obtain ⟨n, h⟩ := h
          refine x_X9_seek_129 n v1_4 v2_4 v3_4 v4_4 (-1 : Int32) (0 : Int32) _ _ _ _ _ σ4 Q _ ?_ h
          · intro v5_5 g1_5 g2_5 g3_5 g4_5 g6_5 g7_5 g8_5 g9_5 g10_5 g11_5 σ5 h
            refine ds_blk (ls2 := [some (.ref 0), g1_5, g2_5, g3_5, g4_5, some (.int v5_5), some (.int (0 : Int32)), g7_5, g8_5, g9_5, g10_5, g11_5]) (st2 := []) (σ2 := σ5) ok_X9_seek 195 2 380 383 [] rfl rfl rfl rfl trivial ?_
            obtain ⟨n, h⟩ := h
            refine x_X9_seek_383 n v5_5 (0 : Int32) _ _ _ _ _ _ _ _ _ σ5 Q h
    · replace h := h.2 hc
      refine ds_blk (ls2 := [some (.ref 0), some (.int a1), some (.int a2), none, none, none, none, none, none, none, none, none]) (st2 := [.int (-2 : Int32)]) (σ2 := σ) ok_X9_seek 12 1 24 26 [] rfl rfl rfl rfl trivial ?_
      exact ds_iret (show decode mt_X9_seek.2.1 26 = .ok (.ireturn, 1) from ds_dec (i := (26, .ireturn, 1, 0, 0, 0, .int 0)) ok_X9_seek 13 rfl) rfl h
def w_X9_sought (a1 : Int32) (σ : ds_S) (Q : Option Value → ds_S → Prop) : Prop := ((¬ (σ.1 0 10) = 0 → ((¬ (q_bx a1 (σ.1 0 7)) = 0 → vp_in a1 10 ∧ Q (some (.int (σ.1 8 a1.toNatClampNeg))) σ) ∧ ((q_bx a1 (σ.1 0 7)) = 0 → Q (some (.int (-1 : Int32))) σ))) ∧ ((σ.1 0 10) = 0 → Q (some (.int (-3 : Int32))) σ))
theorem e_X9_sought (a1 : Int32) (σ : ds_S) (Q : Option Value → ds_S → Prop) (h : w_X9_sought a1 σ Q) : ds_E mt_X9_sought Ym [.ref 0, .int a1] σ Q := by
  refine ds_enter (by decide) (Nat.le_of_ble_eq_true rfl) ?_
  show ds_X mt_X9_sought Ym 0 [some (.ref 0), some (.int a1)] [] σ Q
  unfold w_X9_sought at h
  refine ds_blk (ls2 := [some (.ref 0), some (.int a1)]) (st2 := [.int (σ.1 0 10)]) (σ2 := σ) ok_X9_sought 0 2 0 4 [ds_k Ym 0 9] rfl rfl rfl rfl ⟨⟨by decide, rfl⟩, trivial⟩ ?_
  refine ds_if_ne (show decode mt_X9_sought.2.1 4 = .ok (.ifCond .ne 8, 3) from ds_dec (i := (4, .ifCond .ne 8, 3, 0, 0, 0, .int 0)) ok_X9_sought 2 rfl) (t := 12) (by decide) (fun hc => ?_) (fun hc => ?_)
  · replace h := h.1 hc
    refine ds_blk (ls2 := [some (.ref 0), some (.int a1)]) (st2 := [.int a1, .ref 0]) (σ2 := σ) ok_X9_sought 5 2 12 14 [] rfl rfl rfl rfl trivial ?_
    refine ds_callV (z := mt_X9_isLine) (b := 0) (as := [.int a1]) (rest := []) (show decode mt_X9_sought.2.1 14 = .ok (.invokevirtual 96, 3) from ds_dec (i := (14, .invokevirtual 96, 3, 0, 0, 853, .int 0)) ok_X9_sought 7 rfl) (ds_E.mono (sp_X9_isLine a1 σ ) (fun r σ1 hr => ?_)) ⟨zw_X9_isLine.1, zw_X9_isLine.2.1, zw_X9_isLine.2.2, by decide, by decide⟩ (ds_wb_T (p := 853) (by decide +kernel)) zi_X9_isLine zs_X9_isLine (by decide) rfl ⟨_, rfl, rfl⟩ (Nat.le_of_ble_eq_true rfl)
    obtain ⟨x9, rfl, e8, e9⟩ := hr
    rw [e8, e9]
    show ds_X mt_X9_sought Ym 17 [some (.ref 0), some (.int a1)] [.int (q_bx a1 (σ.1 0 7))] σ Q
    refine ds_if_ne (show decode mt_X9_sought.2.1 17 = .ok (.ifCond .ne 7, 3) from ds_dec (i := (17, .ifCond .ne 7, 3, 0, 0, 0, .int 0)) ok_X9_sought 8 rfl) (t := 24) (by decide) (fun hc => ?_) (fun hc => ?_)
    · replace h := h.1 hc
      obtain ⟨o1, h⟩ := h
      refine ds_blk (ls2 := [some (.ref 0), some (.int a1)]) (st2 := [.int (σ.1 8 a1.toNatClampNeg)]) (σ2 := σ) ok_X9_sought 11 4 24 30 [ds_k Ym 0 9, ds_k Ym 8 10, vp_in a1 10] rfl rfl rfl rfl ⟨⟨by decide, rfl⟩, ⟨by decide, rfl⟩, o1, trivial⟩ ?_
      exact ds_iret (show decode mt_X9_sought.2.1 30 = .ok (.ireturn, 1) from ds_dec (i := (30, .ireturn, 1, 0, 0, 0, .int 0)) ok_X9_sought 15 rfl) rfl h
    · replace h := h.2 hc
      refine ds_blk (ls2 := [some (.ref 0), some (.int a1)]) (st2 := [.int (-1 : Int32)]) (σ2 := σ) ok_X9_sought 9 1 20 21 [] rfl rfl rfl rfl trivial ?_
      refine ds_goto (show decode mt_X9_sought.2.1 21 = .ok (.goto 9, 3) from ds_dec (i := (21, .goto 9, 3, 0, 0, 0, .int 0)) ok_X9_sought 10 rfl) (t := 30) (by decide) ?_
      exact ds_iret (show decode mt_X9_sought.2.1 30 = .ok (.ireturn, 1) from ds_dec (i := (30, .ireturn, 1, 0, 0, 0, .int 0)) ok_X9_sought 15 rfl) rfl h
  · replace h := h.2 hc
    refine ds_blk (ls2 := [some (.ref 0), some (.int a1)]) (st2 := [.int (-3 : Int32)]) (σ2 := σ) ok_X9_sought 3 1 7 9 [] rfl rfl rfl rfl trivial ?_
    refine ds_goto (show decode mt_X9_sought.2.1 9 = .ok (.goto 21, 3) from ds_dec (i := (9, .goto 21, 3, 0, 0, 0, .int 0)) ok_X9_sought 4 rfl) (t := 30) (by decide) ?_
    exact ds_iret (show decode mt_X9_sought.2.1 30 = .ok (.ireturn, 1) from ds_dec (i := (30, .ireturn, 1, 0, 0, 0, .int 0)) ok_X9_sought 15 rfl) rfl h
def w_X9_better (a1 : Int32) (σ : ds_S) (Q : Option Value → ds_S → Prop) : Prop := ((¬ (σ.1 0 10) = 0 → ((¬ a1 = 0 → ((¬ a1 = (1 : Int32) → Q (some (.long (-1000000000000000002 : Int64))) σ) ∧ (a1 = (1 : Int32) → Q (some (.long (σ.2 0 29))) σ))) ∧ (a1 = 0 → Q (some (.long (σ.2 0 28))) σ))) ∧ ((σ.1 0 10) = 0 → Q (some (.long (-1000000000000000003 : Int64))) σ))
theorem e_X9_better (a1 : Int32) (σ : ds_S) (Q : Option Value → ds_S → Prop) (h : w_X9_better a1 σ Q) : ds_E mt_X9_better Ym [.ref 0, .int a1] σ Q := by
  refine ds_enter (by decide) (Nat.le_of_ble_eq_true rfl) ?_
  show ds_X mt_X9_better Ym 0 [some (.ref 0), some (.int a1)] [] σ Q
  unfold w_X9_better at h
  refine ds_blk (ls2 := [some (.ref 0), some (.int a1)]) (st2 := [.int (σ.1 0 10)]) (σ2 := σ) ok_X9_better 0 2 0 4 [ds_k Ym 0 9] rfl rfl rfl rfl ⟨⟨by decide, rfl⟩, trivial⟩ ?_
  refine ds_if_ne (show decode mt_X9_better.2.1 4 = .ok (.ifCond .ne 7, 3) from ds_dec (i := (4, .ifCond .ne 7, 3, 0, 0, 0, .int 0)) ok_X9_better 2 rfl) (t := 11) (by decide) (fun hc => ?_) (fun hc => ?_)
  · replace h := h.1 hc
    refine ds_blk (ls2 := [some (.ref 0), some (.int a1)]) (st2 := [.int a1]) (σ2 := σ) ok_X9_better 5 1 11 12 [] rfl rfl rfl rfl trivial ?_
    refine ds_if_ne (show decode mt_X9_better.2.1 12 = .ok (.ifCond .ne 10, 3) from ds_dec (i := (12, .ifCond .ne 10, 3, 0, 0, 0, .int 0)) ok_X9_better 6 rfl) (t := 22) (by decide) (fun hc => ?_) (fun hc => ?_)
    · replace h := h.1 hc
      refine ds_blk (ls2 := [some (.ref 0), some (.int a1)]) (st2 := [.int (1 : Int32), .int a1]) (σ2 := σ) ok_X9_better 10 2 22 24 [] rfl rfl rfl rfl trivial ?_
      refine ds_ic_ne (show decode mt_X9_better.2.1 24 = .ok (.if_icmp .ne 10, 3) from ds_dec (i := (24, .if_icmp .ne 10, 3, 0, 0, 0, .int 0)) ok_X9_better 12 rfl) (t := 34) (by decide) (fun hc => ?_) (fun hc => ?_)
      · replace h := h.1 hc
        refine ds_blk (ls2 := [some (.ref 0), some (.int a1)]) (st2 := [.long (-1000000000000000002 : Int64)]) (σ2 := σ) ok_X9_better 16 1 34 37 [] rfl rfl rfl rfl trivial ?_
        exact ds_lret (show decode mt_X9_better.2.1 37 = .ok (.lreturn, 1) from ds_dec (i := (37, .lreturn, 1, 0, 0, 0, .int 0)) ok_X9_better 17 rfl) rfl h
      · replace h := h.2 hc
        refine ds_blk (ls2 := [some (.ref 0), some (.int a1)]) (st2 := [.long (σ.2 0 29)]) (σ2 := σ) ok_X9_better 13 2 27 31 [ds_k Ym 0 9] rfl rfl rfl rfl ⟨⟨by decide, rfl⟩, trivial⟩ ?_
        refine ds_goto (show decode mt_X9_better.2.1 31 = .ok (.goto 6, 3) from ds_dec (i := (31, .goto 6, 3, 0, 0, 0, .int 0)) ok_X9_better 15 rfl) (t := 37) (by decide) ?_
        exact ds_lret (show decode mt_X9_better.2.1 37 = .ok (.lreturn, 1) from ds_dec (i := (37, .lreturn, 1, 0, 0, 0, .int 0)) ok_X9_better 17 rfl) rfl h
    · replace h := h.2 hc
      refine ds_blk (ls2 := [some (.ref 0), some (.int a1)]) (st2 := [.long (σ.2 0 28)]) (σ2 := σ) ok_X9_better 7 2 15 19 [ds_k Ym 0 9] rfl rfl rfl rfl ⟨⟨by decide, rfl⟩, trivial⟩ ?_
      refine ds_goto (show decode mt_X9_better.2.1 19 = .ok (.goto 18, 3) from ds_dec (i := (19, .goto 18, 3, 0, 0, 0, .int 0)) ok_X9_better 9 rfl) (t := 37) (by decide) ?_
      exact ds_lret (show decode mt_X9_better.2.1 37 = .ok (.lreturn, 1) from ds_dec (i := (37, .lreturn, 1, 0, 0, 0, .int 0)) ok_X9_better 17 rfl) rfl h
  · replace h := h.2 hc
    refine ds_blk (ls2 := [some (.ref 0), some (.int a1)]) (st2 := [.long (-1000000000000000003 : Int64)]) (σ2 := σ) ok_X9_better 3 1 7 10 [] rfl rfl rfl rfl trivial ?_
    exact ds_lret (show decode mt_X9_better.2.1 10 = .ok (.lreturn, 1) from ds_dec (i := (10, .lreturn, 1, 0, 0, 0, .int 0)) ok_X9_better 4 rfl) rfl h
def w_X9_take_43 (v2 : Int32) (t0 : Int32) (t1 : Int32) (σ : ds_S) (Q : Option Value → ds_S → Prop) (K14 : Int32 → Int32 → ds_S → Prop) : Prop := vp_in v2 10 ∧ vp_in v2 10 ∧ K14 (t1 + t0) (v2 + (1 : Int32)) (ds_wi σ 4 v2.toNatClampNeg (σ.1 8 v2.toNatClampNeg))
theorem x_X9_take_43 (v2 : Int32) (t0 : Int32) (t1 : Int32) (g1 : Option Value) (σ : ds_S) (Q : Option Value → ds_S → Prop) (K14 : Int32 → Int32 → ds_S → Prop) (hK14 : ∀ (v1 : Int32) (v2 : Int32) (σ2 : ds_S), K14 v1 v2 σ2 → ds_X mt_X9_take Ym 14 [some (.ref 0), some (.int v1), some (.int v2)] [] σ2 Q) (h : w_X9_take_43 v2 t0 t1 σ Q K14) : ds_X mt_X9_take Ym 43 [some (.ref 0), g1, some (.int v2)] [.int t0, .int t1] σ Q := by
  unfold w_X9_take_43 at h
  obtain ⟨o1, o2, h⟩ := h
  refine ds_blk (ls2 := [some (.ref 0), some (.int (t1 + t0)), some (.int (v2 + (1 : Int32)))]) (st2 := []) (σ2 := (ds_wi σ 4 v2.toNatClampNeg (σ.1 8 v2.toNatClampNeg))) ok_X9_take 26 11 43 60 [ds_k Ym 0 9, ds_k Ym 0 9, ds_k Ym 8 10, vp_in v2 10, ds_k Ym 4 10, vp_in v2 10] rfl rfl rfl rfl ⟨⟨by decide, rfl⟩, ⟨by decide, rfl⟩, ⟨by decide, rfl⟩, o1, ⟨by decide, rfl⟩, o2, trivial⟩ ?_
  refine ds_goto (show decode mt_X9_take.2.1 60 = .ok (.goto (-46), 3) from ds_dec (i := (60, .goto (-46), 3, 0, 0, 0, .int 0)) ok_X9_take 37 rfl) (t := 14) (by decide) ?_
  exact hK14 (t1 + t0) (v2 + (1 : Int32)) (ds_wi σ 4 v2.toNatClampNeg (σ.1 8 v2.toNatClampNeg)) h
def w_X9_take_14 : Nat → (v1 : Int32) → (v2 : Int32) → (σ : ds_S) → (Q : Option Value → ds_S → Prop) → Prop
  | 0, _, _, _, _ => False
  | f + 1, v1, v2, σ, Q => (((σ.1 0 7) ≤ v2 → Q (some (.int v1)) (ds_wi σ 0 10 (0 : Int32))) ∧ (¬ (σ.1 0 7) ≤ v2 → vp_in v2 10 ∧ vp_in v2 10 ∧ ((¬ (σ.1 4 v2.toNatClampNeg) = (σ.1 8 v2.toNatClampNeg) → w_X9_take_43 v2 (1 : Int32) v1 σ Q (fun v1_1 v2_1 σ1 => w_X9_take_14 f v1_1 v2_1 σ1 Q)) ∧ ((σ.1 4 v2.toNatClampNeg) = (σ.1 8 v2.toNatClampNeg) → w_X9_take_43 v2 (0 : Int32) v1 σ Q (fun v1_2 v2_2 σ2 => w_X9_take_14 f v1_2 v2_2 σ2 Q)))))
theorem x_X9_take_14 : ∀ (f : Nat) (v1 : Int32) (v2 : Int32) (σ : ds_S) (Q : Option Value → ds_S → Prop), w_X9_take_14 f v1 v2 σ Q → ds_X mt_X9_take Ym 14 [some (.ref 0), some (.int v1), some (.int v2)] [] σ Q := by
  intro f
  induction f with
  | zero => intro v1 v2 σ Q h; exact False.elim h
  | succ f ih =>
    intro v1 v2 σ Q h
    rw [w_X9_take_14] at h
    refine ds_blk (ls2 := [some (.ref 0), some (.int v1), some (.int v2)]) (st2 := [.int (σ.1 0 7), .int v2]) (σ2 := σ) ok_X9_take 9 3 14 19 [ds_k Ym 0 9] rfl rfl rfl rfl ⟨⟨by decide, rfl⟩, trivial⟩ ?_
    refine ds_ic_ge (show decode mt_X9_take.2.1 19 = .ok (.if_icmp .ge 44, 3) from ds_dec (i := (19, .if_icmp .ge 44, 3, 0, 0, 0, .int 0)) ok_X9_take 12 rfl) (t := 63) (by decide) (fun hc => ?_) (fun hc => ?_)
    · replace h := h.1 hc
      refine ds_blk (ls2 := [some (.ref 0), some (.int v1), some (.int v2)]) (st2 := [.int v1]) (σ2 := (ds_wi σ 0 10 (0 : Int32))) ok_X9_take 38 4 63 69 [ds_k Ym 0 9, (0 : Int32) = 0 ∨ (0 : Int32) = 1] rfl rfl rfl rfl ⟨⟨by decide, rfl⟩, (by decide), trivial⟩ ?_
      exact ds_iret (show decode mt_X9_take.2.1 69 = .ok (.ireturn, 1) from ds_dec (i := (69, .ireturn, 1, 0, 0, 0, .int 0)) ok_X9_take 42 rfl) rfl h
    · replace h := h.2 hc
      obtain ⟨o1, o2, h⟩ := h
      refine ds_blk (ls2 := [some (.ref 0), some (.int v1), some (.int v2)]) (st2 := [.int (σ.1 8 v2.toNatClampNeg), .int (σ.1 4 v2.toNatClampNeg), .int v1]) (σ2 := σ) ok_X9_take 13 9 22 35 [ds_k Ym 0 9, ds_k Ym 4 10, vp_in v2 10, ds_k Ym 0 9, ds_k Ym 8 10, vp_in v2 10] rfl rfl rfl rfl ⟨⟨by decide, rfl⟩, ⟨by decide, rfl⟩, o1, ⟨by decide, rfl⟩, ⟨by decide, rfl⟩, o2, trivial⟩ ?_
      refine ds_ic_ne (show decode mt_X9_take.2.1 35 = .ok (.if_icmp .ne 7, 3) from ds_dec (i := (35, .if_icmp .ne 7, 3, 0, 0, 0, .int 0)) ok_X9_take 22 rfl) (t := 42) (by decide) (fun hc => ?_) (fun hc => ?_)
      · replace h := h.1 hc
        refine ds_blk (ls2 := [some (.ref 0), some (.int v1), some (.int v2)]) (st2 := [.int (1 : Int32), .int v1]) (σ2 := σ) ok_X9_take 25 1 42 43 [] rfl rfl rfl rfl trivial ?_
        refine x_X9_take_43 v2 (1 : Int32) v1 _ σ Q _ ?_ h
        · intro v1_1 v2_1 σ1 h
          exact ih v1_1 v2_1 σ1 Q h
      · replace h := h.2 hc
        refine ds_blk (ls2 := [some (.ref 0), some (.int v1), some (.int v2)]) (st2 := [.int (0 : Int32), .int v1]) (σ2 := σ) ok_X9_take 23 1 38 39 [] rfl rfl rfl rfl trivial ?_
        refine ds_goto (show decode mt_X9_take.2.1 39 = .ok (.goto 4, 3) from ds_dec (i := (39, .goto 4, 3, 0, 0, 0, .int 0)) ok_X9_take 24 rfl) (t := 43) (by decide) ?_
        refine x_X9_take_43 v2 (0 : Int32) v1 _ σ Q _ ?_ h
        · intro v1_2 v2_2 σ2 h
          exact ih v1_2 v2_2 σ2 Q h
def w_X9_take (σ : ds_S) (Q : Option Value → ds_S → Prop) : Prop := ((¬ (σ.1 0 10) = 0 → ∃ n, w_X9_take_14 n (0 : Int32) (0 : Int32) σ Q) ∧ ((σ.1 0 10) = 0 → Q (some (.int (-3 : Int32))) σ))
theorem e_X9_take (σ : ds_S) (Q : Option Value → ds_S → Prop) (h : w_X9_take σ Q) : ds_E mt_X9_take Ym [.ref 0] σ Q := by
  refine ds_enter (by decide) (Nat.le_of_ble_eq_true rfl) ?_
  show ds_X mt_X9_take Ym 0 [some (.ref 0), none, none] [] σ Q
  unfold w_X9_take at h
  refine ds_blk (ls2 := [some (.ref 0), none, none]) (st2 := [.int (σ.1 0 10)]) (σ2 := σ) ok_X9_take 0 2 0 4 [ds_k Ym 0 9] rfl rfl rfl rfl ⟨⟨by decide, rfl⟩, trivial⟩ ?_
  refine ds_if_ne (show decode mt_X9_take.2.1 4 = .ok (.ifCond .ne 6, 3) from ds_dec (i := (4, .ifCond .ne 6, 3, 0, 0, 0, .int 0)) ok_X9_take 2 rfl) (t := 10) (by decide) (fun hc => ?_) (fun hc => ?_)
  · replace h := h.1 hc
    refine ds_blk (ls2 := [some (.ref 0), some (.int (0 : Int32)), some (.int (0 : Int32))]) (st2 := []) (σ2 := σ) ok_X9_take 5 4 10 14 [] rfl rfl rfl rfl trivial ?_
    obtain ⟨n, h⟩ := h
    refine x_X9_take_14 n (0 : Int32) (0 : Int32) σ Q h
  · replace h := h.2 hc
    refine ds_blk (ls2 := [some (.ref 0), none, none]) (st2 := [.int (-3 : Int32)]) (σ2 := σ) ok_X9_take 3 1 7 9 [] rfl rfl rfl rfl trivial ?_
    exact ds_iret (show decode mt_X9_take.2.1 9 = .ok (.ireturn, 1) from ds_dec (i := (9, .ireturn, 1, 0, 0, 0, .int 0)) ok_X9_take 4 rfl) rfl h
def w_X9_addGoes_68 (v1 : Int32) (v4 : Int32) (v5 : Int32) (t0 : Int32) (t1 : Int32) (t2 : Int32) (σ : ds_S) (Q : Option Value → ds_S → Prop) (K23 : Int32 → Int32 → Int32 → ds_S → Prop) : Prop := vp_in t2 6 ∧ vp_in v5 10 ∧ vp_in (σ.1 2 v5.toNatClampNeg) 6 ∧ ds_EI mt_X9_isNext Ym [.ref 0, .int v5, .int (1 : Int32)] (ds_wi σ 16 t2.toNatClampNeg (t1 ||| t0)) (fun r1 σ1 => ((r1 = 0 → vp_in (σ.1 2 v5.toNatClampNeg) 6 ∧ K23 v1 v4 (v5 + (1 : Int32)) (ds_wi σ1 16 ((σ.1 2 v5.toNatClampNeg).toNatClampNeg) (((ds_wi σ 16 t2.toNatClampNeg (t1 ||| t0)).1 16 ((σ.1 2 v5.toNatClampNeg).toNatClampNeg)) ||| (0 : Int32)))) ∧ (¬ r1 = 0 → vp_in v5 10 ∧ vp_in (σ.1 2 v5.toNatClampNeg) 6 ∧ K23 v1 v4 (v5 + (1 : Int32)) (ds_wi σ1 16 ((σ.1 2 v5.toNatClampNeg).toNatClampNeg) (((ds_wi σ 16 t2.toNatClampNeg (t1 ||| t0)).1 16 ((σ.1 2 v5.toNatClampNeg).toNatClampNeg)) ||| ((1 : Int32) <<< ((σ1.1 1 v5.toNatClampNeg) &&& 31)))))))
theorem x_X9_addGoes_68 (v1 : Int32) (v4 : Int32) (v5 : Int32) (t0 : Int32) (t1 : Int32) (t2 : Int32) (g2 : Option Value) (g3 : Option Value) (σ : ds_S) (Q : Option Value → ds_S → Prop) (K23 : Int32 → Int32 → Int32 → ds_S → Prop) (hK23 : ∀ (v1 : Int32) (v4 : Int32) (v5 : Int32) (g2 : Option Value) (g3 : Option Value) (σ2 : ds_S), K23 v1 v4 v5 σ2 → ds_X mt_X9_addGoes Ym 23 [some (.ref 0), some (.int v1), g2, g3, some (.int v4), some (.int v5)] [] σ2 Q) (h : w_X9_addGoes_68 v1 v4 v5 t0 t1 t2 σ Q K23) : ds_X mt_X9_addGoes Ym 68 [some (.ref 0), some (.int v1), g2, g3, some (.int v4), some (.int v5)] [.int t0, .int t1, .int t2, .ref 16] σ Q := by
  unfold w_X9_addGoes_68 at h
  obtain ⟨o1, o2, o3, h⟩ := h
  refine ds_blk (ls2 := [some (.ref 0), some (.int v1), g2, g3, some (.int v4), some (.int v5)]) (st2 := [.int (1 : Int32), .int v5, .ref 0, .int ((ds_wi σ 16 t2.toNatClampNeg (t1 ||| t0)).1 16 ((σ.1 2 v5.toNatClampNeg).toNatClampNeg)), .int (σ.1 2 v5.toNatClampNeg), .ref 16]) (σ2 := (ds_wi σ 16 t2.toNatClampNeg (t1 ||| t0))) ok_X9_addGoes 40 13 68 87 [ds_k Ym 16 10, vp_in t2 6, ds_k Ym 0 9, ds_k Ym 0 9, ds_k Ym 2 10, vp_in v5 10, ds_k Ym 16 10, vp_in (σ.1 2 v5.toNatClampNeg) 6] rfl rfl rfl rfl ⟨⟨by decide, rfl⟩, o1, ⟨by decide, rfl⟩, ⟨by decide, rfl⟩, ⟨by decide, rfl⟩, o2, ⟨by decide, rfl⟩, o3, trivial⟩ ?_
  refine ds_callV (z := mt_X9_isNext) (b := 0) (as := [.int v5, .int (1 : Int32)]) (rest := [.int ((ds_wi σ 16 t2.toNatClampNeg (t1 ||| t0)).1 16 ((σ.1 2 v5.toNatClampNeg).toNatClampNeg)), .int (σ.1 2 v5.toNatClampNeg), .ref 16]) (show decode mt_X9_addGoes.2.1 87 = .ok (.invokevirtual 116, 3) from ds_dec (i := (87, .invokevirtual 116, 3, 0, 0, 898, .int 0)) ok_X9_addGoes 53 rfl) (ds_E.mono h (fun r σ1 hr => ?_)) ⟨zw_X9_isNext.1, zw_X9_isNext.2.1, zw_X9_isNext.2.2, by decide, by decide⟩ (ds_wb_T (p := 898) (by decide +kernel)) zi_X9_isNext zs_X9_isNext (by decide) rfl ⟨_, rfl, rfl⟩ (Nat.le_of_ble_eq_true rfl)
  obtain ⟨r1, rfl, h⟩ := hr
  show ds_X mt_X9_addGoes Ym 90 [some (.ref 0), some (.int v1), g2, g3, some (.int v4), some (.int v5)] [.int r1, .int ((ds_wi σ 16 t2.toNatClampNeg (t1 ||| t0)).1 16 ((σ.1 2 v5.toNatClampNeg).toNatClampNeg)), .int (σ.1 2 v5.toNatClampNeg), .ref 16] σ1 Q
  refine ds_if_eq (show decode mt_X9_addGoes.2.1 90 = .ok (.ifCond .eq 15, 3) from ds_dec (i := (90, .ifCond .eq 15, 3, 0, 0, 0, .int 0)) ok_X9_addGoes 54 rfl) (t := 105) (by decide) (fun hc => ?_) (fun hc => ?_)
  · replace h := h.1 hc
    obtain ⟨o4, h⟩ := h
    refine ds_blk (ls2 := [some (.ref 0), some (.int v1), g2, g3, some (.int v4), some (.int (v5 + (1 : Int32)))]) (st2 := []) (σ2 := (ds_wi σ1 16 ((σ.1 2 v5.toNatClampNeg).toNatClampNeg) (((ds_wi σ 16 t2.toNatClampNeg (t1 ||| t0)).1 16 ((σ.1 2 v5.toNatClampNeg).toNatClampNeg)) ||| (0 : Int32)))) ok_X9_addGoes 62 4 105 111 [ds_k Ym 16 10, vp_in (σ.1 2 v5.toNatClampNeg) 6] rfl rfl rfl rfl ⟨⟨by decide, rfl⟩, o4, trivial⟩ ?_
    refine ds_goto (show decode mt_X9_addGoes.2.1 111 = .ok (.goto (-88), 3) from ds_dec (i := (111, .goto (-88), 3, 0, 0, 0, .int 0)) ok_X9_addGoes 66 rfl) (t := 23) (by decide) ?_
    exact hK23 v1 v4 (v5 + (1 : Int32)) _ _ (ds_wi σ1 16 ((σ.1 2 v5.toNatClampNeg).toNatClampNeg) (((ds_wi σ 16 t2.toNatClampNeg (t1 ||| t0)).1 16 ((σ.1 2 v5.toNatClampNeg).toNatClampNeg)) ||| (0 : Int32))) h
  · replace h := h.2 hc
    obtain ⟨o5, h⟩ := h
    refine ds_blk (ls2 := [some (.ref 0), some (.int v1), g2, g3, some (.int v4), some (.int v5)]) (st2 := [.int ((1 : Int32) <<< ((σ1.1 1 v5.toNatClampNeg) &&& 31)), .int ((ds_wi σ 16 t2.toNatClampNeg (t1 ||| t0)).1 16 ((σ.1 2 v5.toNatClampNeg).toNatClampNeg)), .int (σ.1 2 v5.toNatClampNeg), .ref 16]) (σ2 := σ1) ok_X9_addGoes 55 6 93 102 [ds_k Ym 0 9, ds_k Ym 1 10, vp_in v5 10] rfl rfl rfl rfl ⟨⟨by decide, rfl⟩, ⟨by decide, rfl⟩, o5, trivial⟩ ?_
    refine ds_goto (show decode mt_X9_addGoes.2.1 102 = .ok (.goto 4, 3) from ds_dec (i := (102, .goto 4, 3, 0, 0, 0, .int 0)) ok_X9_addGoes 61 rfl) (t := 106) (by decide) ?_
    obtain ⟨o6, h⟩ := h
    refine ds_blk (ls2 := [some (.ref 0), some (.int v1), g2, g3, some (.int v4), some (.int (v5 + (1 : Int32)))]) (st2 := []) (σ2 := (ds_wi σ1 16 ((σ.1 2 v5.toNatClampNeg).toNatClampNeg) (((ds_wi σ 16 t2.toNatClampNeg (t1 ||| t0)).1 16 ((σ.1 2 v5.toNatClampNeg).toNatClampNeg)) ||| ((1 : Int32) <<< ((σ1.1 1 v5.toNatClampNeg) &&& 31))))) ok_X9_addGoes 63 3 106 111 [ds_k Ym 16 10, vp_in (σ.1 2 v5.toNatClampNeg) 6] rfl rfl rfl rfl ⟨⟨by decide, rfl⟩, o6, trivial⟩ ?_
    refine ds_goto (show decode mt_X9_addGoes.2.1 111 = .ok (.goto (-88), 3) from ds_dec (i := (111, .goto (-88), 3, 0, 0, 0, .int 0)) ok_X9_addGoes 66 rfl) (t := 23) (by decide) ?_
    exact hK23 v1 v4 (v5 + (1 : Int32)) _ _ (ds_wi σ1 16 ((σ.1 2 v5.toNatClampNeg).toNatClampNeg) (((ds_wi σ 16 t2.toNatClampNeg (t1 ||| t0)).1 16 ((σ.1 2 v5.toNatClampNeg).toNatClampNeg)) ||| ((1 : Int32) <<< ((σ1.1 1 v5.toNatClampNeg) &&& 31)))) h
def w_X9_addGoes_23 : Nat → (v1 : Int32) → (v4 : Int32) → (v5 : Int32) → (σ : ds_S) → (Q : Option Value → ds_S → Prop) → Prop
  | 0, _, _, _, _, _ => False
  | f + 1, v1, v4, v5, σ, Q => (((σ.1 0 7) ≤ v5 → vp_in v1 10 ∧ Q none (ds_wi σ 4 v1.toNatClampNeg v4)) ∧ (¬ (σ.1 0 7) ≤ v5 → vp_in v5 10 ∧ vp_in (σ.1 1 v5.toNatClampNeg) 6 ∧ ds_EI mt_X9_isNext Ym [.ref 0, .int v5, .int (0 : Int32)] σ (fun r1 σ1 => ((r1 = 0 → w_X9_addGoes_68 v1 v4 v5 (0 : Int32) (σ.1 16 ((σ.1 1 v5.toNatClampNeg).toNatClampNeg)) (σ.1 1 v5.toNatClampNeg) σ1 Q (fun v1_2 v4_2 v5_2 σ2 => w_X9_addGoes_23 f v1_2 v4_2 v5_2 σ2 Q)) ∧ (¬ r1 = 0 → vp_in v5 10 ∧ w_X9_addGoes_68 v1 v4 v5 ((1 : Int32) <<< ((σ1.1 2 v5.toNatClampNeg) &&& 31)) (σ.1 16 ((σ.1 1 v5.toNatClampNeg).toNatClampNeg)) (σ.1 1 v5.toNatClampNeg) σ1 Q (fun v1_3 v4_3 v5_3 σ3 => w_X9_addGoes_23 f v1_3 v4_3 v5_3 σ3 Q))))))
theorem x_X9_addGoes_23 : ∀ (f : Nat) (v1 : Int32) (v4 : Int32) (v5 : Int32) (g2 : Option Value) (g3 : Option Value) (σ : ds_S) (Q : Option Value → ds_S → Prop), w_X9_addGoes_23 f v1 v4 v5 σ Q → ds_X mt_X9_addGoes Ym 23 [some (.ref 0), some (.int v1), g2, g3, some (.int v4), some (.int v5)] [] σ Q := by
  intro f
  induction f with
  | zero => intro v1 v4 v5 g2 g3 σ Q h; exact False.elim h
  | succ f ih =>
    intro v1 v4 v5 g2 g3 σ Q h
    rw [w_X9_addGoes_23] at h
    refine ds_blk (ls2 := [some (.ref 0), some (.int v1), g2, g3, some (.int v4), some (.int v5)]) (st2 := [.int (σ.1 0 7), .int v5]) (σ2 := σ) ok_X9_addGoes 15 3 23 29 [ds_k Ym 0 9] rfl rfl rfl rfl ⟨⟨by decide, rfl⟩, trivial⟩ ?_
    refine ds_ic_ge (show decode mt_X9_addGoes.2.1 29 = .ok (.if_icmp .ge 85, 3) from ds_dec (i := (29, .if_icmp .ge 85, 3, 0, 0, 0, .int 0)) ok_X9_addGoes 18 rfl) (t := 114) (by decide) (fun hc => ?_) (fun hc => ?_)
    · replace h := h.1 hc
      obtain ⟨o1, h⟩ := h
      refine ds_blk (ls2 := [some (.ref 0), some (.int v1), g2, g3, some (.int v4), some (.int v5)]) (st2 := []) (σ2 := (ds_wi σ 4 v1.toNatClampNeg v4)) ok_X9_addGoes 67 5 114 122 [ds_k Ym 0 9, ds_k Ym 4 10, vp_in v1 10] rfl rfl rfl rfl ⟨⟨by decide, rfl⟩, ⟨by decide, rfl⟩, o1, trivial⟩ ?_
      exact ds_vret (show decode mt_X9_addGoes.2.1 122 = .ok (.return_, 1) from ds_dec (i := (122, .return_, 1, 0, 0, 0, .int 0)) ok_X9_addGoes 72 rfl) rfl h
    · replace h := h.2 hc
      obtain ⟨o2, o3, h⟩ := h
      refine ds_blk (ls2 := [some (.ref 0), some (.int v1), g2, g3, some (.int v4), some (.int v5)]) (st2 := [.int (0 : Int32), .int v5, .ref 0, .int (σ.1 16 ((σ.1 1 v5.toNatClampNeg).toNatClampNeg)), .int (σ.1 1 v5.toNatClampNeg), .ref 16]) (σ2 := σ) ok_X9_addGoes 19 11 32 49 [ds_k Ym 0 9, ds_k Ym 0 9, ds_k Ym 1 10, vp_in v5 10, ds_k Ym 16 10, vp_in (σ.1 1 v5.toNatClampNeg) 6] rfl rfl rfl rfl ⟨⟨by decide, rfl⟩, ⟨by decide, rfl⟩, ⟨by decide, rfl⟩, o2, ⟨by decide, rfl⟩, o3, trivial⟩ ?_
      refine ds_callV (z := mt_X9_isNext) (b := 0) (as := [.int v5, .int (0 : Int32)]) (rest := [.int (σ.1 16 ((σ.1 1 v5.toNatClampNeg).toNatClampNeg)), .int (σ.1 1 v5.toNatClampNeg), .ref 16]) (show decode mt_X9_addGoes.2.1 49 = .ok (.invokevirtual 116, 3) from ds_dec (i := (49, .invokevirtual 116, 3, 0, 0, 898, .int 0)) ok_X9_addGoes 30 rfl) (ds_E.mono h (fun r σ1 hr => ?_)) ⟨zw_X9_isNext.1, zw_X9_isNext.2.1, zw_X9_isNext.2.2, by decide, by decide⟩ (ds_wb_T (p := 898) (by decide +kernel)) zi_X9_isNext zs_X9_isNext (by decide) rfl ⟨_, rfl, rfl⟩ (Nat.le_of_ble_eq_true rfl)
      obtain ⟨r1, rfl, h⟩ := hr
      show ds_X mt_X9_addGoes Ym 52 [some (.ref 0), some (.int v1), g2, g3, some (.int v4), some (.int v5)] [.int r1, .int (σ.1 16 ((σ.1 1 v5.toNatClampNeg).toNatClampNeg)), .int (σ.1 1 v5.toNatClampNeg), .ref 16] σ1 Q
      refine ds_if_eq (show decode mt_X9_addGoes.2.1 52 = .ok (.ifCond .eq 15, 3) from ds_dec (i := (52, .ifCond .eq 15, 3, 0, 0, 0, .int 0)) ok_X9_addGoes 31 rfl) (t := 67) (by decide) (fun hc => ?_) (fun hc => ?_)
      · replace h := h.1 hc
        refine ds_blk (ls2 := [some (.ref 0), some (.int v1), g2, g3, some (.int v4), some (.int v5)]) (st2 := [.int (0 : Int32), .int (σ.1 16 ((σ.1 1 v5.toNatClampNeg).toNatClampNeg)), .int (σ.1 1 v5.toNatClampNeg), .ref 16]) (σ2 := σ1) ok_X9_addGoes 39 1 67 68 [] rfl rfl rfl rfl trivial ?_
        refine x_X9_addGoes_68 v1 v4 v5 (0 : Int32) (σ.1 16 ((σ.1 1 v5.toNatClampNeg).toNatClampNeg)) (σ.1 1 v5.toNatClampNeg) _ _ σ1 Q _ ?_ h
        · intro v1_2 v4_2 v5_2 g2_2 g3_2 σ2 h
          exact ih v1_2 v4_2 v5_2 _ _ σ2 Q h
      · replace h := h.2 hc
        obtain ⟨o4, h⟩ := h
        refine ds_blk (ls2 := [some (.ref 0), some (.int v1), g2, g3, some (.int v4), some (.int v5)]) (st2 := [.int ((1 : Int32) <<< ((σ1.1 2 v5.toNatClampNeg) &&& 31)), .int (σ.1 16 ((σ.1 1 v5.toNatClampNeg).toNatClampNeg)), .int (σ.1 1 v5.toNatClampNeg), .ref 16]) (σ2 := σ1) ok_X9_addGoes 32 6 55 64 [ds_k Ym 0 9, ds_k Ym 2 10, vp_in v5 10] rfl rfl rfl rfl ⟨⟨by decide, rfl⟩, ⟨by decide, rfl⟩, o4, trivial⟩ ?_
        refine ds_goto (show decode mt_X9_addGoes.2.1 64 = .ok (.goto 4, 3) from ds_dec (i := (64, .goto 4, 3, 0, 0, 0, .int 0)) ok_X9_addGoes 38 rfl) (t := 68) (by decide) ?_
        refine x_X9_addGoes_68 v1 v4 v5 ((1 : Int32) <<< ((σ1.1 2 v5.toNatClampNeg) &&& 31)) (σ.1 16 ((σ.1 1 v5.toNatClampNeg).toNatClampNeg)) (σ.1 1 v5.toNatClampNeg) _ _ σ1 Q _ ?_ h
        · intro v1_3 v4_3 v5_3 g2_3 g3_3 σ3 h
          exact ih v1_3 v4_3 v5_3 _ _ σ3 Q h
def w_X9_addGoes (a1 : Int32) (a2 : Int32) (a3 : Int32) (σ : ds_S) (Q : Option Value → ds_S → Prop) : Prop := vp_in a1 10 ∧ vp_in a1 10 ∧ ds_EV mt_X9_findFar Ym [.ref 0, .int a3] (ds_wi σ 4 a1.toNatClampNeg a2) (fun σ1 => ∃ n, w_X9_addGoes_23 n a1 (σ.1 4 a1.toNatClampNeg) (0 : Int32) σ1 Q)
theorem e_X9_addGoes (a1 : Int32) (a2 : Int32) (a3 : Int32) (σ : ds_S) (Q : Option Value → ds_S → Prop) (h : w_X9_addGoes a1 a2 a3 σ Q) : ds_E mt_X9_addGoes Ym [.ref 0, .int a1, .int a2, .int a3] σ Q := by
  refine ds_enter (by decide) (Nat.le_of_ble_eq_true rfl) ?_
  show ds_X mt_X9_addGoes Ym 0 [some (.ref 0), some (.int a1), some (.int a2), some (.int a3), none, none] [] σ Q
  unfold w_X9_addGoes at h
  obtain ⟨o1, o2, h⟩ := h
  refine ds_blk (ls2 := [some (.ref 0), some (.int a1), some (.int a2), some (.int a3), some (.int (σ.1 4 a1.toNatClampNeg)), none]) (st2 := [.int a3, .ref 0]) (σ2 := (ds_wi σ 4 a1.toNatClampNeg a2)) ok_X9_addGoes 0 12 0 17 [ds_k Ym 0 9, ds_k Ym 4 10, vp_in a1 10, ds_k Ym 0 9, ds_k Ym 4 10, vp_in a1 10] rfl rfl rfl rfl ⟨⟨by decide, rfl⟩, ⟨by decide, rfl⟩, o1, ⟨by decide, rfl⟩, ⟨by decide, rfl⟩, o2, trivial⟩ ?_
  refine ds_callV (z := mt_X9_findFar) (b := 0) (as := [.int a3]) (rest := []) (show decode mt_X9_addGoes.2.1 17 = .ok (.invokevirtual 112, 3) from ds_dec (i := (17, .invokevirtual 112, 3, 0, 0, 881, .int 0)) ok_X9_addGoes 12 rfl) (ds_E.mono h (fun r σ1 hr => ?_)) ⟨zw_X9_findFar.1, zw_X9_findFar.2.1, zw_X9_findFar.2.2, by decide, by decide⟩ (ds_wb_T (p := 881) (by decide +kernel)) zi_X9_findFar zs_X9_findFar (by decide) rfl ⟨_, rfl, rfl⟩ (Nat.le_of_ble_eq_true rfl)
  obtain ⟨rfl, h⟩ := hr
  show ds_X mt_X9_addGoes Ym 20 [some (.ref 0), some (.int a1), some (.int a2), some (.int a3), some (.int (σ.1 4 a1.toNatClampNeg)), none] [] σ1 Q
  refine ds_blk (ls2 := [some (.ref 0), some (.int a1), some (.int a2), some (.int a3), some (.int (σ.1 4 a1.toNatClampNeg)), some (.int (0 : Int32))]) (st2 := []) (σ2 := σ1) ok_X9_addGoes 13 2 20 23 [] rfl rfl rfl rfl trivial ?_
  obtain ⟨n, h⟩ := h
  refine x_X9_addGoes_23 n a1 (σ.1 4 a1.toNatClampNeg) (0 : Int32) _ _ σ1 Q h
def w_X9_hasRing_3 : Nat → (v1 : Int32) → (v2 : Int32) → (v3 : Int32) → (v4 : Int32) → (v5 : Int32) → (σ : ds_S) → (Q : Option Value → ds_S → Prop) → (K24 : Int32 → Int32 → Int32 → Int32 → ds_S → Prop) → Prop
  | 0, _, _, _, _, _, _, _, _ => False
  | f + 1, v1, v2, v3, v4, v5, σ, Q, K24 => (((6 : Int32) ≤ v5 → K24 v1 v2 v3 v4 σ) ∧ (¬ (6 : Int32) ≤ v5 → vp_in v5 6 ∧ w_X9_hasRing_3 f v1 v2 v3 v4 (v5 + (1 : Int32)) (ds_wi σ 16 v5.toNatClampNeg (0 : Int32)) Q K24))
theorem x_X9_hasRing_3 : ∀ (f : Nat) (v1 : Int32) (v2 : Int32) (v3 : Int32) (v4 : Int32) (v5 : Int32) (g6 : Option Value) (g7 : Option Value) (σ : ds_S) (Q : Option Value → ds_S → Prop) (K24 : Int32 → Int32 → Int32 → Int32 → ds_S → Prop) (hK24 : ∀ (v1 : Int32) (v2 : Int32) (v3 : Int32) (v4 : Int32) (g5 : Option Value) (g6 : Option Value) (g7 : Option Value) (σ2 : ds_S), K24 v1 v2 v3 v4 σ2 → ds_X mt_X9_hasRing Ym 24 [some (.ref 0), some (.int v1), some (.int v2), some (.int v3), some (.int v4), g5, g6, g7] [] σ2 Q), w_X9_hasRing_3 f v1 v2 v3 v4 v5 σ Q K24 → ds_X mt_X9_hasRing Ym 3 [some (.ref 0), some (.int v1), some (.int v2), some (.int v3), some (.int v4), some (.int v5), g6, g7] [] σ Q := by
  intro f
  induction f with
  | zero => intro v1 v2 v3 v4 v5 g6 g7 σ Q K24 hK24 h; exact False.elim h
  | succ f ih =>
    intro v1 v2 v3 v4 v5 g6 g7 σ Q K24 hK24 h
    rw [w_X9_hasRing_3] at h
    refine ds_blk (ls2 := [some (.ref 0), some (.int v1), some (.int v2), some (.int v3), some (.int v4), some (.int v5), g6, g7]) (st2 := [.int (6 : Int32), .int v5]) (σ2 := σ) ok_X9_hasRing 2 2 3 7 [] rfl rfl rfl rfl trivial ?_
    refine ds_ic_ge (show decode mt_X9_hasRing.2.1 7 = .ok (.if_icmp .ge 17, 3) from ds_dec (i := (7, .if_icmp .ge 17, 3, 0, 0, 0, .int 0)) ok_X9_hasRing 4 rfl) (t := 24) (by decide) (fun hc => ?_) (fun hc => ?_)
    · replace h := h.1 hc
      exact hK24 v1 v2 v3 v4 _ _ _ σ h
    · replace h := h.2 hc
      obtain ⟨o1, h⟩ := h
      refine ds_blk (ls2 := [some (.ref 0), some (.int v1), some (.int v2), some (.int v3), some (.int v4), some (.int (v5 + (1 : Int32))), g6, g7]) (st2 := []) (σ2 := (ds_wi σ 16 v5.toNatClampNeg (0 : Int32))) ok_X9_hasRing 5 6 10 21 [ds_k Ym 0 9, ds_k Ym 16 10, vp_in v5 6] rfl rfl rfl rfl ⟨⟨by decide, rfl⟩, ⟨by decide, rfl⟩, o1, trivial⟩ ?_
      refine ds_goto (show decode mt_X9_hasRing.2.1 21 = .ok (.goto (-18), 3) from ds_dec (i := (21, .goto (-18), 3, 0, 0, 0, .int 0)) ok_X9_hasRing 11 rfl) (t := 3) (by decide) ?_
      exact ih v1 v2 v3 v4 (v5 + (1 : Int32)) _ _ (ds_wi σ 16 v5.toNatClampNeg (0 : Int32)) Q K24 hK24 h
def w_X9_hasRing_72 : Nat → (v5 : Int32) → (v6 : Int32) → (v7 : Int32) → (σ : ds_S) → (Q : Option Value → ds_S → Prop) → (K116 : Int32 → Int32 → ds_S → Prop) → Prop
  | 0, _, _, _, _, _, _ => False
  | f + 1, v5, v6, v7, σ, Q, K116 => (((σ.1 0 0) ≤ v7 → K116 v5 v6 σ) ∧ (¬ (σ.1 0 0) ≤ v7 → vp_in v7 6 ∧ ((¬ ((σ.1 16 v7.toNatClampNeg) &&& v5) = 0 → w_X9_hasRing_72 f v5 v6 (v7 + (1 : Int32)) σ Q K116) ∧ (((σ.1 16 v7.toNatClampNeg) &&& v5) = 0 → w_X9_hasRing_72 f (v5 &&& (((1 : Int32) <<< (v7 &&& 31)) ^^^ (-1 : Int32))) v6 (v7 + (1 : Int32)) σ Q K116))))
theorem x_X9_hasRing_72 : ∀ (f : Nat) (v5 : Int32) (v6 : Int32) (v7 : Int32) (g1 : Option Value) (g2 : Option Value) (g3 : Option Value) (g4 : Option Value) (σ : ds_S) (Q : Option Value → ds_S → Prop) (K116 : Int32 → Int32 → ds_S → Prop) (hK116 : ∀ (v5 : Int32) (v6 : Int32) (g1 : Option Value) (g2 : Option Value) (g3 : Option Value) (g4 : Option Value) (g7 : Option Value) (σ2 : ds_S), K116 v5 v6 σ2 → ds_X mt_X9_hasRing Ym 116 [some (.ref 0), g1, g2, g3, g4, some (.int v5), some (.int v6), g7] [] σ2 Q), w_X9_hasRing_72 f v5 v6 v7 σ Q K116 → ds_X mt_X9_hasRing Ym 72 [some (.ref 0), g1, g2, g3, g4, some (.int v5), some (.int v6), some (.int v7)] [] σ Q := by
  intro f
  induction f with
  | zero => intro v5 v6 v7 g1 g2 g3 g4 σ Q K116 hK116 h; exact False.elim h
  | succ f ih =>
    intro v5 v6 v7 g1 g2 g3 g4 σ Q K116 hK116 h
    rw [w_X9_hasRing_72] at h
    refine ds_blk (ls2 := [some (.ref 0), g1, g2, g3, g4, some (.int v5), some (.int v6), some (.int v7)]) (st2 := [.int (σ.1 0 0), .int v7]) (σ2 := σ) ok_X9_hasRing 43 3 72 78 [ds_k Ym 0 9] rfl rfl rfl rfl ⟨⟨by decide, rfl⟩, trivial⟩ ?_
    refine ds_ic_ge (show decode mt_X9_hasRing.2.1 78 = .ok (.if_icmp .ge 38, 3) from ds_dec (i := (78, .if_icmp .ge 38, 3, 0, 0, 0, .int 0)) ok_X9_hasRing 46 rfl) (t := 116) (by decide) (fun hc => ?_) (fun hc => ?_)
    · replace h := h.1 hc
      exact hK116 v5 v6 _ _ _ _ _ σ h
    · replace h := h.2 hc
      obtain ⟨o1, h⟩ := h
      refine ds_blk (ls2 := [some (.ref 0), g1, g2, g3, g4, some (.int v5), some (.int v6), some (.int v7)]) (st2 := [.int ((σ.1 16 v7.toNatClampNeg) &&& v5)]) (σ2 := σ) ok_X9_hasRing 47 6 81 91 [ds_k Ym 0 9, ds_k Ym 16 10, vp_in v7 6] rfl rfl rfl rfl ⟨⟨by decide, rfl⟩, ⟨by decide, rfl⟩, o1, trivial⟩ ?_
      refine ds_if_ne (show decode mt_X9_hasRing.2.1 91 = .ok (.ifCond .ne 15, 3) from ds_dec (i := (91, .ifCond .ne 15, 3, 0, 0, 0, .int 0)) ok_X9_hasRing 53 rfl) (t := 106) (by decide) (fun hc => ?_) (fun hc => ?_)
      · replace h := h.1 hc
        refine ds_blk (ls2 := [some (.ref 0), g1, g2, g3, (ds_nl g4), some (.int v5), some (.int v6), some (.int (v7 + (1 : Int32)))]) (st2 := []) (σ2 := σ) ok_X9_hasRing 62 3 106 113 [] rfl rfl rfl rfl trivial ?_
        refine ds_goto (show decode mt_X9_hasRing.2.1 113 = .ok (.goto (-41), 3) from ds_dec (i := (113, .goto (-41), 3, 0, 0, 0, .int 0)) ok_X9_hasRing 65 rfl) (t := 72) (by decide) ?_
        exact ih v5 v6 (v7 + (1 : Int32)) _ _ _ _ σ Q K116 hK116 h
      · replace h := h.2 hc
        refine ds_blk (ls2 := [some (.ref 0), g1, g2, g3, g4, some (.int v5), some (.int v6), some (.int v7)]) (st2 := [.int (v5 &&& (((1 : Int32) <<< (v7 &&& 31)) ^^^ (-1 : Int32)))]) (σ2 := σ) ok_X9_hasRing 54 7 94 103 [] rfl rfl rfl rfl trivial ?_
        refine ds_goto (show decode mt_X9_hasRing.2.1 103 = .ok (.goto 5, 3) from ds_dec (i := (103, .goto 5, 3, 0, 0, 0, .int 0)) ok_X9_hasRing 61 rfl) (t := 108) (by decide) ?_
        refine ds_blk (ls2 := [some (.ref 0), g1, g2, g3, (ds_nl g4), some (.int (v5 &&& (((1 : Int32) <<< (v7 &&& 31)) ^^^ (-1 : Int32)))), some (.int v6), some (.int (v7 + (1 : Int32)))]) (st2 := []) (σ2 := σ) ok_X9_hasRing 63 2 108 113 [] rfl rfl rfl rfl trivial ?_
        refine ds_goto (show decode mt_X9_hasRing.2.1 113 = .ok (.goto (-41), 3) from ds_dec (i := (113, .goto (-41), 3, 0, 0, 0, .int 0)) ok_X9_hasRing 65 rfl) (t := 72) (by decide) ?_
        exact ih (v5 &&& (((1 : Int32) <<< (v7 &&& 31)) ^^^ (-1 : Int32))) v6 (v7 + (1 : Int32)) _ _ _ _ σ Q K116 hK116 h
def w_X9_hasRing_60 : Nat → (v5 : Int32) → (v6 : Int32) → (σ : ds_S) → (Q : Option Value → ds_S → Prop) → Prop
  | 0, _, _, _, _ => False
  | f + 1, v5, v6, σ, Q => (((σ.1 0 0) ≤ v6 → ((v5 = 0 → Q (some (.int (0 : Int32))) σ) ∧ (¬ v5 = 0 → Q (some (.int (1 : Int32))) σ))) ∧ (¬ (σ.1 0 0) ≤ v6 → ∃ n, w_X9_hasRing_72 n v5 v6 (0 : Int32) σ Q (fun v5_1 v6_1 σ1 => w_X9_hasRing_60 f v5_1 (v6_1 + (1 : Int32)) σ1 Q)))
theorem x_X9_hasRing_60 : ∀ (f : Nat) (v5 : Int32) (v6 : Int32) (g1 : Option Value) (g2 : Option Value) (g3 : Option Value) (g4 : Option Value) (g7 : Option Value) (σ : ds_S) (Q : Option Value → ds_S → Prop), w_X9_hasRing_60 f v5 v6 σ Q → ds_X mt_X9_hasRing Ym 60 [some (.ref 0), g1, g2, g3, g4, some (.int v5), some (.int v6), g7] [] σ Q := by
  intro f
  induction f with
  | zero => intro v5 v6 g1 g2 g3 g4 g7 σ Q h; exact False.elim h
  | succ f ih =>
    intro v5 v6 g1 g2 g3 g4 g7 σ Q h
    rw [w_X9_hasRing_60] at h
    refine ds_blk (ls2 := [some (.ref 0), g1, g2, g3, g4, some (.int v5), some (.int v6), g7]) (st2 := [.int (σ.1 0 0), .int v6]) (σ2 := σ) ok_X9_hasRing 37 3 60 66 [ds_k Ym 0 9] rfl rfl rfl rfl ⟨⟨by decide, rfl⟩, trivial⟩ ?_
    refine ds_ic_ge (show decode mt_X9_hasRing.2.1 66 = .ok (.if_icmp .ge 56, 3) from ds_dec (i := (66, .if_icmp .ge 56, 3, 0, 0, 0, .int 0)) ok_X9_hasRing 40 rfl) (t := 122) (by decide) (fun hc => ?_) (fun hc => ?_)
    · replace h := h.1 hc
      refine ds_blk (ls2 := [some (.ref 0), g1, g2, g3, g4, some (.int v5), some (.int v6), g7]) (st2 := [.int v5]) (σ2 := σ) ok_X9_hasRing 68 1 122 124 [] rfl rfl rfl rfl trivial ?_
      refine ds_if_eq (show decode mt_X9_hasRing.2.1 124 = .ok (.ifCond .eq 7, 3) from ds_dec (i := (124, .ifCond .eq 7, 3, 0, 0, 0, .int 0)) ok_X9_hasRing 69 rfl) (t := 131) (by decide) (fun hc => ?_) (fun hc => ?_)
      · replace h := h.1 hc
        refine ds_blk (ls2 := [some (.ref 0), g1, g2, g3, g4, some (.int v5), some (.int v6), g7]) (st2 := [.int (0 : Int32)]) (σ2 := σ) ok_X9_hasRing 72 1 131 132 [] rfl rfl rfl rfl trivial ?_
        exact ds_zret (show decode mt_X9_hasRing.2.1 132 = .ok (.ireturn, 1) from ds_dec (i := (132, .ireturn, 1, 0, 0, 0, .int 0)) ok_X9_hasRing 73 rfl) rfl (by decide) h
      · replace h := h.2 hc
        refine ds_blk (ls2 := [some (.ref 0), g1, g2, g3, g4, some (.int v5), some (.int v6), g7]) (st2 := [.int (1 : Int32)]) (σ2 := σ) ok_X9_hasRing 70 1 127 128 [] rfl rfl rfl rfl trivial ?_
        refine ds_goto (show decode mt_X9_hasRing.2.1 128 = .ok (.goto 4, 3) from ds_dec (i := (128, .goto 4, 3, 0, 0, 0, .int 0)) ok_X9_hasRing 71 rfl) (t := 132) (by decide) ?_
        exact ds_zret (show decode mt_X9_hasRing.2.1 132 = .ok (.ireturn, 1) from ds_dec (i := (132, .ireturn, 1, 0, 0, 0, .int 0)) ok_X9_hasRing 73 rfl) rfl (by decide) h
    · replace h := h.2 hc
      refine ds_blk (ls2 := [some (.ref 0), g1, g2, g3, g4, some (.int v5), some (.int v6), some (.int (0 : Int32))]) (st2 := []) (σ2 := σ) ok_X9_hasRing 41 2 69 72 [] rfl rfl rfl rfl trivial ?_
      obtain ⟨n, h⟩ := h
      refine x_X9_hasRing_72 n v5 v6 (0 : Int32) _ _ _ _ σ Q _ ?_ h
      · intro v5_1 v6_1 g1_1 g2_1 g3_1 g4_1 g7_1 σ1 h
        refine ds_blk (ls2 := [some (.ref 0), g1_1, g2_1, g3_1, g4_1, some (.int v5_1), some (.int (v6_1 + (1 : Int32))), g7_1]) (st2 := []) (σ2 := σ1) ok_X9_hasRing 66 1 116 119 [] rfl rfl rfl rfl trivial ?_
        refine ds_goto (show decode mt_X9_hasRing.2.1 119 = .ok (.goto (-59), 3) from ds_dec (i := (119, .goto (-59), 3, 0, 0, 0, .int 0)) ok_X9_hasRing 67 rfl) (t := 60) (by decide) ?_
        exact ih v5_1 (v6_1 + (1 : Int32)) _ _ _ _ _ σ1 Q h
def w_X9_hasRing (a1 : Int32) (a2 : Int32) (a3 : Int32) (a4 : Int32) (σ : ds_S) (Q : Option Value → ds_S → Prop) : Prop := ∃ n, w_X9_hasRing_3 n a1 a2 a3 a4 (0 : Int32) σ Q (fun v1_1 v2_1 v3_1 v4_1 σ1 => ds_EV mt_X9_addGoes Ym [.ref 0, .int v1_1, .int v2_1, .int v4_1] σ1 (fun σ2 => ds_EV mt_X9_addGoes Ym [.ref 0, .int v1_1, .int v3_1, .int v4_1] σ2 (fun σ3 => ∃ n, w_X9_hasRing_60 n ((((1 : Int32) <<< ((σ3.1 0 0) &&& 31)) - (1 : Int32)) &&& (((1 : Int32) <<< (v4_1 &&& 31)) ^^^ (-1 : Int32))) (0 : Int32) σ3 Q)))
theorem e_X9_hasRing (a1 : Int32) (a2 : Int32) (a3 : Int32) (a4 : Int32) (σ : ds_S) (Q : Option Value → ds_S → Prop) (h : w_X9_hasRing a1 a2 a3 a4 σ Q) : ds_E mt_X9_hasRing Ym [.ref 0, .int a1, .int a2, .int a3, .int a4] σ Q := by
  refine ds_enter (by decide) (Nat.le_of_ble_eq_true rfl) ?_
  show ds_X mt_X9_hasRing Ym 0 [some (.ref 0), some (.int a1), some (.int a2), some (.int a3), some (.int a4), none, none, none] [] σ Q
  unfold w_X9_hasRing at h
  refine ds_blk (ls2 := [some (.ref 0), some (.int a1), some (.int a2), some (.int a3), some (.int a4), some (.int (0 : Int32)), none, none]) (st2 := []) (σ2 := σ) ok_X9_hasRing 0 2 0 3 [] rfl rfl rfl rfl trivial ?_
  obtain ⟨n, h⟩ := h
  refine x_X9_hasRing_3 n a1 a2 a3 a4 (0 : Int32) _ _ σ Q _ ?_ h
  · intro v1_1 v2_1 v3_1 v4_1 g5_1 g6_1 g7_1 σ1 h
    refine ds_blk (ls2 := [some (.ref 0), some (.int v1_1), some (.int v2_1), some (.int v3_1), some (.int v4_1), g5_1, g6_1, g7_1]) (st2 := [.int v4_1, .int v2_1, .int v1_1, .ref 0]) (σ2 := σ1) ok_X9_hasRing 12 4 24 29 [] rfl rfl rfl rfl trivial ?_
    refine ds_callV (z := mt_X9_addGoes) (b := 0) (as := [.int v1_1, .int v2_1, .int v4_1]) (rest := []) (show decode mt_X9_hasRing.2.1 29 = .ok (.invokevirtual 212, 3) from ds_dec (i := (29, .invokevirtual 212, 3, 0, 0, 1009, .int 0)) ok_X9_hasRing 16 rfl) (ds_E.mono h (fun r σ2 hr => ?_)) ⟨zw_X9_addGoes.1, zw_X9_addGoes.2.1, zw_X9_addGoes.2.2, by decide, by decide⟩ (ds_wb_T (p := 1009) (by decide +kernel)) zi_X9_addGoes zs_X9_addGoes (by decide) rfl ⟨_, rfl, rfl⟩ (Nat.le_of_ble_eq_true rfl)
    obtain ⟨rfl, h⟩ := hr
    show ds_X mt_X9_hasRing Ym 32 [some (.ref 0), some (.int v1_1), some (.int v2_1), some (.int v3_1), some (.int v4_1), g5_1, g6_1, g7_1] [] σ2 Q
    refine ds_blk (ls2 := [some (.ref 0), some (.int v1_1), some (.int v2_1), some (.int v3_1), some (.int v4_1), g5_1, g6_1, g7_1]) (st2 := [.int v4_1, .int v3_1, .int v1_1, .ref 0]) (σ2 := σ2) ok_X9_hasRing 17 4 32 37 [] rfl rfl rfl rfl trivial ?_
    refine ds_callV (z := mt_X9_addGoes) (b := 0) (as := [.int v1_1, .int v3_1, .int v4_1]) (rest := []) (show decode mt_X9_hasRing.2.1 37 = .ok (.invokevirtual 212, 3) from ds_dec (i := (37, .invokevirtual 212, 3, 0, 0, 1009, .int 0)) ok_X9_hasRing 21 rfl) (ds_E.mono h (fun r σ3 hr => ?_)) ⟨zw_X9_addGoes.1, zw_X9_addGoes.2.1, zw_X9_addGoes.2.2, by decide, by decide⟩ (ds_wb_T (p := 1009) (by decide +kernel)) zi_X9_addGoes zs_X9_addGoes (by decide) rfl ⟨_, rfl, rfl⟩ (Nat.le_of_ble_eq_true rfl)
    obtain ⟨rfl, h⟩ := hr
    show ds_X mt_X9_hasRing Ym 40 [some (.ref 0), some (.int v1_1), some (.int v2_1), some (.int v3_1), some (.int v4_1), g5_1, g6_1, g7_1] [] σ3 Q
    refine ds_blk (ls2 := [some (.ref 0), some (.int v1_1), some (.int v2_1), some (.int v3_1), some (.int v4_1), some (.int ((((1 : Int32) <<< ((σ3.1 0 0) &&& 31)) - (1 : Int32)) &&& (((1 : Int32) <<< (v4_1 &&& 31)) ^^^ (-1 : Int32)))), some (.int (0 : Int32)), g7_1]) (st2 := []) (σ2 := σ3) ok_X9_hasRing 22 15 40 60 [ds_k Ym 0 9] rfl rfl rfl rfl ⟨⟨by decide, rfl⟩, trivial⟩ ?_
    obtain ⟨n, h⟩ := h
    refine x_X9_hasRing_60 n ((((1 : Int32) <<< ((σ3.1 0 0) &&& 31)) - (1 : Int32)) &&& (((1 : Int32) <<< (v4_1 &&& 31)) ^^^ (-1 : Int32))) (0 : Int32) _ _ _ _ _ σ3 Q h
def w_X9_ringOf_3 : Nat → (v1 : Int32) → (v2 : Int32) → (v3 : Int32) → (v4 : Int32) → (σ : ds_S) → (Q : Option Value → ds_S → Prop) → Prop
  | 0, _, _, _, _, _, _ => False
  | f + 1, v1, v2, v3, v4, σ, Q => (((σ.1 0 0) ≤ v4 → Q (some (.int (-6 : Int32))) σ) ∧ (¬ (σ.1 0 0) ≤ v4 → ds_EI mt_X9_hasRing Ym [.ref 0, .int v1, .int v2, .int v3, .int v4] σ (fun r1 σ1 => ((r1 = 0 → w_X9_ringOf_3 f v1 v2 v3 (v4 + (1 : Int32)) σ1 Q) ∧ (¬ r1 = 0 → Q (some (.int v4)) σ1)))))
theorem x_X9_ringOf_3 : ∀ (f : Nat) (v1 : Int32) (v2 : Int32) (v3 : Int32) (v4 : Int32) (σ : ds_S) (Q : Option Value → ds_S → Prop), w_X9_ringOf_3 f v1 v2 v3 v4 σ Q → ds_X mt_X9_ringOf Ym 3 [some (.ref 0), some (.int v1), some (.int v2), some (.int v3), some (.int v4)] [] σ Q := by
  intro f
  induction f with
  | zero => intro v1 v2 v3 v4 σ Q h; exact False.elim h
  | succ f ih =>
    intro v1 v2 v3 v4 σ Q h
    rw [w_X9_ringOf_3] at h
    refine ds_blk (ls2 := [some (.ref 0), some (.int v1), some (.int v2), some (.int v3), some (.int v4)]) (st2 := [.int (σ.1 0 0), .int v4]) (σ2 := σ) ok_X9_ringOf 2 3 3 9 [ds_k Ym 0 9] rfl rfl rfl rfl ⟨⟨by decide, rfl⟩, trivial⟩ ?_
    refine ds_ic_ge (show decode mt_X9_ringOf.2.1 9 = .ok (.if_icmp .ge 24, 3) from ds_dec (i := (9, .if_icmp .ge 24, 3, 0, 0, 0, .int 0)) ok_X9_ringOf 5 rfl) (t := 33) (by decide) (fun hc => ?_) (fun hc => ?_)
    · replace h := h.1 hc
      refine ds_blk (ls2 := [some (.ref 0), some (.int v1), some (.int v2), some (.int v3), some (.int v4)]) (st2 := [.int (-6 : Int32)]) (σ2 := σ) ok_X9_ringOf 17 1 33 35 [] rfl rfl rfl rfl trivial ?_
      exact ds_iret (show decode mt_X9_ringOf.2.1 35 = .ok (.ireturn, 1) from ds_dec (i := (35, .ireturn, 1, 0, 0, 0, .int 0)) ok_X9_ringOf 18 rfl) rfl h
    · replace h := h.2 hc
      refine ds_blk (ls2 := [some (.ref 0), some (.int v1), some (.int v2), some (.int v3), some (.int v4)]) (st2 := [.int v4, .int v3, .int v2, .int v1, .ref 0]) (σ2 := σ) ok_X9_ringOf 6 5 12 18 [] rfl rfl rfl rfl trivial ?_
      refine ds_callV (z := mt_X9_hasRing) (b := 0) (as := [.int v1, .int v2, .int v3, .int v4]) (rest := []) (show decode mt_X9_ringOf.2.1 18 = .ok (.invokevirtual 216, 3) from ds_dec (i := (18, .invokevirtual 216, 3, 0, 0, 1005, .int 0)) ok_X9_ringOf 11 rfl) (ds_E.mono h (fun r σ1 hr => ?_)) ⟨zw_X9_hasRing.1, zw_X9_hasRing.2.1, zw_X9_hasRing.2.2, by decide, by decide⟩ (ds_wb_T (p := 1005) (by decide +kernel)) zi_X9_hasRing zs_X9_hasRing (by decide) rfl ⟨_, rfl, rfl⟩ (Nat.le_of_ble_eq_true rfl)
      obtain ⟨r1, rfl, h⟩ := hr
      show ds_X mt_X9_ringOf Ym 21 [some (.ref 0), some (.int v1), some (.int v2), some (.int v3), some (.int v4)] [.int r1] σ1 Q
      refine ds_if_eq (show decode mt_X9_ringOf.2.1 21 = .ok (.ifCond .eq 6, 3) from ds_dec (i := (21, .ifCond .eq 6, 3, 0, 0, 0, .int 0)) ok_X9_ringOf 12 rfl) (t := 27) (by decide) (fun hc => ?_) (fun hc => ?_)
      · replace h := h.1 hc
        refine ds_blk (ls2 := [some (.ref 0), some (.int v1), some (.int v2), some (.int v3), some (.int (v4 + (1 : Int32)))]) (st2 := []) (σ2 := σ1) ok_X9_ringOf 15 1 27 30 [] rfl rfl rfl rfl trivial ?_
        refine ds_goto (show decode mt_X9_ringOf.2.1 30 = .ok (.goto (-27), 3) from ds_dec (i := (30, .goto (-27), 3, 0, 0, 0, .int 0)) ok_X9_ringOf 16 rfl) (t := 3) (by decide) ?_
        exact ih v1 v2 v3 (v4 + (1 : Int32)) σ1 Q h
      · replace h := h.2 hc
        refine ds_blk (ls2 := [some (.ref 0), some (.int v1), some (.int v2), some (.int v3), some (.int v4)]) (st2 := [.int v4]) (σ2 := σ1) ok_X9_ringOf 13 1 24 26 [] rfl rfl rfl rfl trivial ?_
        exact ds_iret (show decode mt_X9_ringOf.2.1 26 = .ok (.ireturn, 1) from ds_dec (i := (26, .ireturn, 1, 0, 0, 0, .int 0)) ok_X9_ringOf 14 rfl) rfl h
def w_X9_ringOf (a1 : Int32) (a2 : Int32) (a3 : Int32) (σ : ds_S) (Q : Option Value → ds_S → Prop) : Prop := ∃ n, w_X9_ringOf_3 n a1 a2 a3 (0 : Int32) σ Q
theorem e_X9_ringOf (a1 : Int32) (a2 : Int32) (a3 : Int32) (σ : ds_S) (Q : Option Value → ds_S → Prop) (h : w_X9_ringOf a1 a2 a3 σ Q) : ds_E mt_X9_ringOf Ym [.ref 0, .int a1, .int a2, .int a3] σ Q := by
  refine ds_enter (by decide) (Nat.le_of_ble_eq_true rfl) ?_
  show ds_X mt_X9_ringOf Ym 0 [some (.ref 0), some (.int a1), some (.int a2), some (.int a3), none] [] σ Q
  unfold w_X9_ringOf at h
  refine ds_blk (ls2 := [some (.ref 0), some (.int a1), some (.int a2), some (.int a3), some (.int (0 : Int32))]) (st2 := []) (σ2 := σ) ok_X9_ringOf 0 2 0 3 [] rfl rfl rfl rfl trivial ?_
  obtain ⟨n, h⟩ := h
  refine x_X9_ringOf_3 n a1 a2 a3 (0 : Int32) σ Q h
def w_X9_whyNot (a1 : Int32) (a2 : Int32) (σ : ds_S) (Q : Option Value → ds_S → Prop) : Prop := ((¬ (q_bx a1 (σ.1 0 7)) = 0 → ((¬ (q_in a2.toInt64 (1 : Int64) (20 : Int64)) = 0 → vp_in a1 10 ∧ (((σ.1 6 a1.toNatClampNeg) = 0 → Q (some (.int (0 : Int32))) σ) ∧ (¬ (σ.1 6 a1.toNatClampNeg) = 0 → Q (some (.int (-3 : Int32))) σ))) ∧ ((q_in a2.toInt64 (1 : Int64) (20 : Int64)) = 0 → Q (some (.int (-2 : Int32))) σ))) ∧ ((q_bx a1 (σ.1 0 7)) = 0 → Q (some (.int (-1 : Int32))) σ))
theorem e_X9_whyNot (a1 : Int32) (a2 : Int32) (σ : ds_S) (Q : Option Value → ds_S → Prop) (h : w_X9_whyNot a1 a2 σ Q) : ds_E mt_X9_whyNot Ym [.ref 0, .int a1, .int a2] σ Q := by
  refine ds_enter (by decide) (Nat.le_of_ble_eq_true rfl) ?_
  show ds_X mt_X9_whyNot Ym 0 [some (.ref 0), some (.int a1), some (.int a2)] [] σ Q
  unfold w_X9_whyNot at h
  refine ds_blk (ls2 := [some (.ref 0), some (.int a1), some (.int a2)]) (st2 := [.int a1, .ref 0]) (σ2 := σ) ok_X9_whyNot 0 2 0 2 [] rfl rfl rfl rfl trivial ?_
  refine ds_callV (z := mt_X9_isLine) (b := 0) (as := [.int a1]) (rest := []) (show decode mt_X9_whyNot.2.1 2 = .ok (.invokevirtual 96, 3) from ds_dec (i := (2, .invokevirtual 96, 3, 0, 0, 853, .int 0)) ok_X9_whyNot 2 rfl) (ds_E.mono (sp_X9_isLine a1 σ ) (fun r σ1 hr => ?_)) ⟨zw_X9_isLine.1, zw_X9_isLine.2.1, zw_X9_isLine.2.2, by decide, by decide⟩ (ds_wb_T (p := 853) (by decide +kernel)) zi_X9_isLine zs_X9_isLine (by decide) rfl ⟨_, rfl, rfl⟩ (Nat.le_of_ble_eq_true rfl)
  obtain ⟨x9, rfl, e8, e9⟩ := hr
  rw [e8, e9]
  show ds_X mt_X9_whyNot Ym 5 [some (.ref 0), some (.int a1), some (.int a2)] [.int (q_bx a1 (σ.1 0 7))] σ Q
  refine ds_if_ne (show decode mt_X9_whyNot.2.1 5 = .ok (.ifCond .ne 5, 3) from ds_dec (i := (5, .ifCond .ne 5, 3, 0, 0, 0, .int 0)) ok_X9_whyNot 3 rfl) (t := 10) (by decide) (fun hc => ?_) (fun hc => ?_)
  · replace h := h.1 hc
    refine ds_blk (ls2 := [some (.ref 0), some (.int a1), some (.int a2)]) (st2 := [.long (20 : Int64), .long (1 : Int64), .long a2.toInt64]) (σ2 := σ) ok_X9_whyNot 6 4 10 16 [] rfl rfl rfl rfl trivial ?_
    refine ds_callS (z := mt_X9_in) (as := [.long a2.toInt64, .long (1 : Int64), .long (20 : Int64)]) (rest := []) (show decode mt_X9_whyNot.2.1 16 = .ok (.invokestatic 73, 3) from ds_dec (i := (16, .invokestatic 73, 3, 0, 0, 836, .int 0)) ok_X9_whyNot 10 rfl) (ds_E.mono (sp_X9_in a2.toInt64 (1 : Int64) (20 : Int64) σ ) (fun r σ2 hr => ?_)) ⟨zw_X9_in.1, zw_X9_in.2.1, zw_X9_in.2.2, by decide, by decide⟩ (ds_wb_T (p := 836) (by decide +kernel)) zt_X9_in (Nat.le_of_ble_eq_true rfl)
    obtain ⟨x9, rfl, e8, e9⟩ := hr
    rw [e8, e9]
    show ds_X mt_X9_whyNot Ym 19 [some (.ref 0), some (.int a1), some (.int a2)] [.int (q_in a2.toInt64 (1 : Int64) (20 : Int64))] σ Q
    refine ds_if_ne (show decode mt_X9_whyNot.2.1 19 = .ok (.ifCond .ne 8, 3) from ds_dec (i := (19, .ifCond .ne 8, 3, 0, 0, 0, .int 0)) ok_X9_whyNot 11 rfl) (t := 27) (by decide) (fun hc => ?_) (fun hc => ?_)
    · replace h := h.1 hc
      obtain ⟨o1, h⟩ := h
      refine ds_blk (ls2 := [some (.ref 0), some (.int a1), some (.int a2)]) (st2 := [.int (σ.1 6 a1.toNatClampNeg)]) (σ2 := σ) ok_X9_whyNot 14 4 27 33 [ds_k Ym 0 9, ds_k Ym 6 12, vp_in a1 10] rfl rfl rfl rfl ⟨⟨by decide, rfl⟩, ⟨by decide, rfl⟩, o1, trivial⟩ ?_
      refine ds_if_eq (show decode mt_X9_whyNot.2.1 33 = .ok (.ifCond .eq 8, 3) from ds_dec (i := (33, .ifCond .eq 8, 3, 0, 0, 0, .int 0)) ok_X9_whyNot 18 rfl) (t := 41) (by decide) (fun hc => ?_) (fun hc => ?_)
      · replace h := h.1 hc
        refine ds_blk (ls2 := [some (.ref 0), some (.int a1), some (.int a2)]) (st2 := [.int (0 : Int32)]) (σ2 := σ) ok_X9_whyNot 21 1 41 42 [] rfl rfl rfl rfl trivial ?_
        exact ds_iret (show decode mt_X9_whyNot.2.1 42 = .ok (.ireturn, 1) from ds_dec (i := (42, .ireturn, 1, 0, 0, 0, .int 0)) ok_X9_whyNot 22 rfl) rfl h
      · replace h := h.2 hc
        refine ds_blk (ls2 := [some (.ref 0), some (.int a1), some (.int a2)]) (st2 := [.int (-3 : Int32)]) (σ2 := σ) ok_X9_whyNot 19 1 36 38 [] rfl rfl rfl rfl trivial ?_
        refine ds_goto (show decode mt_X9_whyNot.2.1 38 = .ok (.goto 4, 3) from ds_dec (i := (38, .goto 4, 3, 0, 0, 0, .int 0)) ok_X9_whyNot 20 rfl) (t := 42) (by decide) ?_
        exact ds_iret (show decode mt_X9_whyNot.2.1 42 = .ok (.ireturn, 1) from ds_dec (i := (42, .ireturn, 1, 0, 0, 0, .int 0)) ok_X9_whyNot 22 rfl) rfl h
    · replace h := h.2 hc
      refine ds_blk (ls2 := [some (.ref 0), some (.int a1), some (.int a2)]) (st2 := [.int (-2 : Int32)]) (σ2 := σ) ok_X9_whyNot 12 1 22 24 [] rfl rfl rfl rfl trivial ?_
      refine ds_goto (show decode mt_X9_whyNot.2.1 24 = .ok (.goto 18, 3) from ds_dec (i := (24, .goto 18, 3, 0, 0, 0, .int 0)) ok_X9_whyNot 13 rfl) (t := 42) (by decide) ?_
      exact ds_iret (show decode mt_X9_whyNot.2.1 42 = .ok (.ireturn, 1) from ds_dec (i := (42, .ireturn, 1, 0, 0, 0, .int 0)) ok_X9_whyNot 22 rfl) rfl h
  · replace h := h.2 hc
    refine ds_blk (ls2 := [some (.ref 0), some (.int a1), some (.int a2)]) (st2 := [.int (-1 : Int32)]) (σ2 := σ) ok_X9_whyNot 4 1 8 9 [] rfl rfl rfl rfl trivial ?_
    exact ds_iret (show decode mt_X9_whyNot.2.1 9 = .ok (.ireturn, 1) from ds_dec (i := (9, .ireturn, 1, 0, 0, 0, .int 0)) ok_X9_whyNot 5 rfl) rfl h
def w_X9_ring (a1 : Int32) (a2 : Int32) (σ : ds_S) (Q : Option Value → ds_S → Prop) : Prop := ds_EI mt_X9_whyNot Ym [.ref 0, .int a1, .int a2] σ (fun r1 σ1 => ((0 ≤ r1 → vp_in a1 10 ∧ ds_EI mt_X9_ringOf Ym [.ref 0, .int a1, .int (σ1.1 4 a1.toNatClampNeg), .int a2] σ1 (fun r2 σ2 => Q (some (.int r2)) σ2)) ∧ (¬ 0 ≤ r1 → Q (some (.int r1)) σ1)))
theorem e_X9_ring (a1 : Int32) (a2 : Int32) (σ : ds_S) (Q : Option Value → ds_S → Prop) (h : w_X9_ring a1 a2 σ Q) : ds_E mt_X9_ring Ym [.ref 0, .int a1, .int a2] σ Q := by
  refine ds_enter (by decide) (Nat.le_of_ble_eq_true rfl) ?_
  show ds_X mt_X9_ring Ym 0 [some (.ref 0), some (.int a1), some (.int a2), none] [] σ Q
  unfold w_X9_ring at h
  refine ds_blk (ls2 := [some (.ref 0), some (.int a1), some (.int a2), none]) (st2 := [.int a2, .int a1, .ref 0]) (σ2 := σ) ok_X9_ring 0 3 0 3 [] rfl rfl rfl rfl trivial ?_
  refine ds_callV (z := mt_X9_whyNot) (b := 0) (as := [.int a1, .int a2]) (rest := []) (show decode mt_X9_ring.2.1 3 = .ok (.invokevirtual 220, 3) from ds_dec (i := (3, .invokevirtual 220, 3, 0, 0, 997, .int 0)) ok_X9_ring 3 rfl) (ds_E.mono h (fun r σ1 hr => ?_)) ⟨zw_X9_whyNot.1, zw_X9_whyNot.2.1, zw_X9_whyNot.2.2, by decide, by decide⟩ (ds_wb_T (p := 997) (by decide +kernel)) zi_X9_whyNot zs_X9_whyNot (by decide) rfl ⟨_, rfl, rfl⟩ (Nat.le_of_ble_eq_true rfl)
  obtain ⟨r1, rfl, h⟩ := hr
  show ds_X mt_X9_ring Ym 6 [some (.ref 0), some (.int a1), some (.int a2), none] [.int r1] σ1 Q
  refine ds_blk (ls2 := [some (.ref 0), some (.int a1), some (.int a2), some (.int r1)]) (st2 := [.int r1]) (σ2 := σ1) ok_X9_ring 4 2 6 8 [] rfl rfl rfl rfl trivial ?_
  refine ds_if_ge (show decode mt_X9_ring.2.1 8 = .ok (.ifCond .ge 7, 3) from ds_dec (i := (8, .ifCond .ge 7, 3, 0, 0, 0, .int 0)) ok_X9_ring 6 rfl) (t := 15) (by decide) (fun hc => ?_) (fun hc => ?_)
  · replace h := h.1 hc
    obtain ⟨o1, h⟩ := h
    refine ds_blk (ls2 := [some (.ref 0), some (.int a1), some (.int a2), some (.int r1)]) (st2 := [.int a2, .int (σ1.1 4 a1.toNatClampNeg), .int a1, .ref 0]) (σ2 := σ1) ok_X9_ring 9 7 15 24 [ds_k Ym 0 9, ds_k Ym 4 10, vp_in a1 10] rfl rfl rfl rfl ⟨⟨by decide, rfl⟩, ⟨by decide, rfl⟩, o1, trivial⟩ ?_
    refine ds_callV (z := mt_X9_ringOf) (b := 0) (as := [.int a1, .int (σ1.1 4 a1.toNatClampNeg), .int a2]) (rest := []) (show decode mt_X9_ring.2.1 24 = .ok (.invokevirtual 224, 3) from ds_dec (i := (24, .invokevirtual 224, 3, 0, 0, 1001, .int 0)) ok_X9_ring 16 rfl) (ds_E.mono h (fun r σ2 hr => ?_)) ⟨zw_X9_ringOf.1, zw_X9_ringOf.2.1, zw_X9_ringOf.2.2, by decide, by decide⟩ (ds_wb_T (p := 1001) (by decide +kernel)) zi_X9_ringOf zs_X9_ringOf (by decide) rfl ⟨_, rfl, rfl⟩ (Nat.le_of_ble_eq_true rfl)
    obtain ⟨r2, rfl, h⟩ := hr
    show ds_X mt_X9_ring Ym 27 [some (.ref 0), some (.int a1), some (.int a2), some (.int r1)] [.int r2] σ2 Q
    exact ds_iret (show decode mt_X9_ring.2.1 27 = .ok (.ireturn, 1) from ds_dec (i := (27, .ireturn, 1, 0, 0, 0, .int 0)) ok_X9_ring 17 rfl) rfl h
  · replace h := h.2 hc
    refine ds_blk (ls2 := [some (.ref 0), some (.int a1), some (.int a2), some (.int r1)]) (st2 := [.int r1]) (σ2 := σ1) ok_X9_ring 7 1 11 12 [] rfl rfl rfl rfl trivial ?_
    refine ds_goto (show decode mt_X9_ring.2.1 12 = .ok (.goto 15, 3) from ds_dec (i := (12, .goto 15, 3, 0, 0, 0, .int 0)) ok_X9_ring 8 rfl) (t := 27) (by decide) ?_
    exact ds_iret (show decode mt_X9_ring.2.1 27 = .ok (.ireturn, 1) from ds_dec (i := (27, .ireturn, 1, 0, 0, 0, .int 0)) ok_X9_ring 17 rfl) rfl h
def w_X9_findOff_2 : Nat → (v1 : Int32) → (v2 : Int32) → (v3 : Int32) → (σ : ds_S) → (Q : Option Value → ds_S → Prop) → (K31 : Int32 → ds_S → Prop) → Prop
  | 0, _, _, _, _, _, _ => False
  | f + 1, v1, v2, v3, σ, Q, K31 => (((21 : Int32) ≤ v3 → K31 v1 σ) ∧ (¬ (21 : Int32) ≤ v3 → ((¬ v3 = v2 → vp_in v3 21 ∧ w_X9_findOff_2 f v1 v2 (v3 + (1 : Int32)) (ds_wi σ 17 v3.toNatClampNeg (1000000 : Int32)) Q K31) ∧ (v3 = v2 → vp_in v3 21 ∧ w_X9_findOff_2 f v1 v2 (v3 + (1 : Int32)) (ds_wi σ 17 v3.toNatClampNeg (0 : Int32)) Q K31))))
theorem x_X9_findOff_2 : ∀ (f : Nat) (v1 : Int32) (v2 : Int32) (v3 : Int32) (g4 : Option Value) (g5 : Option Value) (σ : ds_S) (Q : Option Value → ds_S → Prop) (K31 : Int32 → ds_S → Prop) (hK31 : ∀ (v1 : Int32) (g2 : Option Value) (g3 : Option Value) (g4 : Option Value) (g5 : Option Value) (σ2 : ds_S), K31 v1 σ2 → ds_X mt_X9_findOff Ym 31 [some (.ref 0), some (.int v1), g2, g3, g4, g5] [] σ2 Q), w_X9_findOff_2 f v1 v2 v3 σ Q K31 → ds_X mt_X9_findOff Ym 2 [some (.ref 0), some (.int v1), some (.int v2), some (.int v3), g4, g5] [] σ Q := by
  intro f
  induction f with
  | zero => intro v1 v2 v3 g4 g5 σ Q K31 hK31 h; exact False.elim h
  | succ f ih =>
    intro v1 v2 v3 g4 g5 σ Q K31 hK31 h
    rw [w_X9_findOff_2] at h
    refine ds_blk (ls2 := [some (.ref 0), some (.int v1), some (.int v2), some (.int v3), g4, g5]) (st2 := [.int (21 : Int32), .int v3]) (σ2 := σ) ok_X9_findOff 2 2 2 5 [] rfl rfl rfl rfl trivial ?_
    refine ds_ic_ge (show decode mt_X9_findOff.2.1 5 = .ok (.if_icmp .ge 26, 3) from ds_dec (i := (5, .if_icmp .ge 26, 3, 0, 0, 0, .int 0)) ok_X9_findOff 4 rfl) (t := 31) (by decide) (fun hc => ?_) (fun hc => ?_)
    · replace h := h.1 hc
      exact hK31 v1 _ _ _ _ σ h
    · replace h := h.2 hc
      refine ds_blk (ls2 := [some (.ref 0), some (.int v1), some (.int v2), some (.int v3), g4, g5]) (st2 := [.int v2, .int v3, .int v3, .ref 17]) (σ2 := σ) ok_X9_findOff 5 5 8 15 [ds_k Ym 0 9] rfl rfl rfl rfl ⟨⟨by decide, rfl⟩, trivial⟩ ?_
      refine ds_ic_ne (show decode mt_X9_findOff.2.1 15 = .ok (.if_icmp .ne 7, 3) from ds_dec (i := (15, .if_icmp .ne 7, 3, 0, 0, 0, .int 0)) ok_X9_findOff 10 rfl) (t := 22) (by decide) (fun hc => ?_) (fun hc => ?_)
      · replace h := h.1 hc
        obtain ⟨o1, h⟩ := h
        refine ds_blk (ls2 := [some (.ref 0), some (.int v1), some (.int v2), some (.int (v3 + (1 : Int32))), g4, g5]) (st2 := []) (σ2 := (ds_wi σ 17 v3.toNatClampNeg (1000000 : Int32))) ok_X9_findOff 13 3 22 28 [ds_k Ym 17 10, vp_in v3 21] rfl rfl rfl rfl ⟨⟨by decide, rfl⟩, o1, trivial⟩ ?_
        refine ds_goto (show decode mt_X9_findOff.2.1 28 = .ok (.goto (-26), 3) from ds_dec (i := (28, .goto (-26), 3, 0, 0, 0, .int 0)) ok_X9_findOff 16 rfl) (t := 2) (by decide) ?_
        exact ih v1 v2 (v3 + (1 : Int32)) _ _ (ds_wi σ 17 v3.toNatClampNeg (1000000 : Int32)) Q K31 hK31 h
      · replace h := h.2 hc
        refine ds_blk (ls2 := [some (.ref 0), some (.int v1), some (.int v2), some (.int v3), g4, g5]) (st2 := [.int (0 : Int32), .int v3, .ref 17]) (σ2 := σ) ok_X9_findOff 11 1 18 19 [] rfl rfl rfl rfl trivial ?_
        refine ds_goto (show decode mt_X9_findOff.2.1 19 = .ok (.goto 5, 3) from ds_dec (i := (19, .goto 5, 3, 0, 0, 0, .int 0)) ok_X9_findOff 12 rfl) (t := 24) (by decide) ?_
        obtain ⟨o2, h⟩ := h
        refine ds_blk (ls2 := [some (.ref 0), some (.int v1), some (.int v2), some (.int (v3 + (1 : Int32))), g4, g5]) (st2 := []) (σ2 := (ds_wi σ 17 v3.toNatClampNeg (0 : Int32))) ok_X9_findOff 14 2 24 28 [ds_k Ym 17 10, vp_in v3 21] rfl rfl rfl rfl ⟨⟨by decide, rfl⟩, o2, trivial⟩ ?_
        refine ds_goto (show decode mt_X9_findOff.2.1 28 = .ok (.goto (-26), 3) from ds_dec (i := (28, .goto (-26), 3, 0, 0, 0, .int 0)) ok_X9_findOff 16 rfl) (t := 2) (by decide) ?_
        exact ih v1 v2 (v3 + (1 : Int32)) _ _ (ds_wi σ 17 v3.toNatClampNeg (0 : Int32)) Q K31 hK31 h
def w_X9_findOff_52 : Nat → (v1 : Int32) → (v3 : Int32) → (v4 : Int32) → (v5 : Int32) → (σ : ds_S) → (Q : Option Value → ds_S → Prop) → (K110 : Int32 → Int32 → Int32 → ds_S → Prop) → Prop
  | 0, _, _, _, _, _, _, _ => False
  | f + 1, v1, v3, v4, v5, σ, Q, K110 => (((21 : Int32) ≤ v5 → K110 v1 v3 v4 σ) ∧ (¬ (21 : Int32) ≤ v5 → vp_in v4 21 ∧ ((¬ (σ.1 17 v4.toNatClampNeg) = v3 → K110 v1 v3 v4 σ) ∧ ((σ.1 17 v4.toNatClampNeg) = v3 → vp_in v5 21 ∧ ((¬ (σ.1 17 v5.toNatClampNeg) = (1000000 : Int32) → w_X9_findOff_52 f v1 v3 v4 (v5 + (1 : Int32)) σ Q K110) ∧ ((σ.1 17 v5.toNatClampNeg) = (1000000 : Int32) → ds_EI mt_X9_ringOf Ym [.ref 0, .int v1, .int v5, .int v4] σ (fun r1 σ1 => ((0 ≤ r1 → w_X9_findOff_52 f v1 v3 v4 (v5 + (1 : Int32)) σ1 Q K110) ∧ (¬ 0 ≤ r1 → vp_in v5 21 ∧ w_X9_findOff_52 f v1 v3 v4 (v5 + (1 : Int32)) (ds_wi σ1 17 v5.toNatClampNeg (v3 + (1 : Int32))) Q K110)))))))))
theorem x_X9_findOff_52 : ∀ (f : Nat) (v1 : Int32) (v3 : Int32) (v4 : Int32) (v5 : Int32) (g2 : Option Value) (σ : ds_S) (Q : Option Value → ds_S → Prop) (K110 : Int32 → Int32 → Int32 → ds_S → Prop) (hK110 : ∀ (v1 : Int32) (v3 : Int32) (v4 : Int32) (g2 : Option Value) (g5 : Option Value) (σ2 : ds_S), K110 v1 v3 v4 σ2 → ds_X mt_X9_findOff Ym 110 [some (.ref 0), some (.int v1), g2, some (.int v3), some (.int v4), g5] [] σ2 Q), w_X9_findOff_52 f v1 v3 v4 v5 σ Q K110 → ds_X mt_X9_findOff Ym 52 [some (.ref 0), some (.int v1), g2, some (.int v3), some (.int v4), some (.int v5)] [] σ Q := by
  intro f
  induction f with
  | zero => intro v1 v3 v4 v5 g2 σ Q K110 hK110 h; exact False.elim h
  | succ f ih =>
    intro v1 v3 v4 v5 g2 σ Q K110 hK110 h
    rw [w_X9_findOff_52] at h
    refine ds_blk (ls2 := [some (.ref 0), some (.int v1), g2, some (.int v3), some (.int v4), some (.int v5)]) (st2 := [.int (21 : Int32), .int v5]) (σ2 := σ) ok_X9_findOff 29 2 52 56 [] rfl rfl rfl rfl trivial ?_
    refine ds_ic_ge (show decode mt_X9_findOff.2.1 56 = .ok (.if_icmp .ge 54, 3) from ds_dec (i := (56, .if_icmp .ge 54, 3, 0, 0, 0, .int 0)) ok_X9_findOff 31 rfl) (t := 110) (by decide) (fun hc => ?_) (fun hc => ?_)
    · replace h := h.1 hc
      exact hK110 v1 v3 v4 _ _ σ h
    · replace h := h.2 hc
      obtain ⟨o1, h⟩ := h
      refine ds_blk (ls2 := [some (.ref 0), some (.int v1), g2, some (.int v3), some (.int v4), some (.int v5)]) (st2 := [.int v3, .int (σ.1 17 v4.toNatClampNeg)]) (σ2 := σ) ok_X9_findOff 32 5 59 67 [ds_k Ym 0 9, ds_k Ym 17 10, vp_in v4 21] rfl rfl rfl rfl ⟨⟨by decide, rfl⟩, ⟨by decide, rfl⟩, o1, trivial⟩ ?_
      refine ds_ic_ne (show decode mt_X9_findOff.2.1 67 = .ok (.if_icmp .ne 43, 3) from ds_dec (i := (67, .if_icmp .ne 43, 3, 0, 0, 0, .int 0)) ok_X9_findOff 37 rfl) (t := 110) (by decide) (fun hc => ?_) (fun hc => ?_)
      · replace h := h.1 hc
        exact hK110 v1 v3 v4 _ _ σ h
      · replace h := h.2 hc
        obtain ⟨o2, h⟩ := h
        refine ds_blk (ls2 := [some (.ref 0), some (.int v1), g2, some (.int v3), some (.int v4), some (.int v5)]) (st2 := [.int (1000000 : Int32), .int (σ.1 17 v5.toNatClampNeg)]) (σ2 := σ) ok_X9_findOff 38 5 70 79 [ds_k Ym 0 9, ds_k Ym 17 10, vp_in v5 21] rfl rfl rfl rfl ⟨⟨by decide, rfl⟩, ⟨by decide, rfl⟩, o2, trivial⟩ ?_
        refine ds_ic_ne (show decode mt_X9_findOff.2.1 79 = .ok (.if_icmp .ne 25, 3) from ds_dec (i := (79, .if_icmp .ne 25, 3, 0, 0, 0, .int 0)) ok_X9_findOff 43 rfl) (t := 104) (by decide) (fun hc => ?_) (fun hc => ?_)
        · replace h := h.1 hc
          refine ds_blk (ls2 := [some (.ref 0), some (.int v1), g2, some (.int v3), some (.int v4), some (.int (v5 + (1 : Int32)))]) (st2 := []) (σ2 := σ) ok_X9_findOff 57 1 104 107 [] rfl rfl rfl rfl trivial ?_
          refine ds_goto (show decode mt_X9_findOff.2.1 107 = .ok (.goto (-55), 3) from ds_dec (i := (107, .goto (-55), 3, 0, 0, 0, .int 0)) ok_X9_findOff 58 rfl) (t := 52) (by decide) ?_
          exact ih v1 v3 v4 (v5 + (1 : Int32)) _ σ Q K110 hK110 h
        · replace h := h.2 hc
          refine ds_blk (ls2 := [some (.ref 0), some (.int v1), g2, some (.int v3), some (.int v4), some (.int v5)]) (st2 := [.int v4, .int v5, .int v1, .ref 0]) (σ2 := σ) ok_X9_findOff 44 4 82 88 [] rfl rfl rfl rfl trivial ?_
          refine ds_callV (z := mt_X9_ringOf) (b := 0) (as := [.int v1, .int v5, .int v4]) (rest := []) (show decode mt_X9_findOff.2.1 88 = .ok (.invokevirtual 224, 3) from ds_dec (i := (88, .invokevirtual 224, 3, 0, 0, 1001, .int 0)) ok_X9_findOff 48 rfl) (ds_E.mono h (fun r σ1 hr => ?_)) ⟨zw_X9_ringOf.1, zw_X9_ringOf.2.1, zw_X9_ringOf.2.2, by decide, by decide⟩ (ds_wb_T (p := 1001) (by decide +kernel)) zi_X9_ringOf zs_X9_ringOf (by decide) rfl ⟨_, rfl, rfl⟩ (Nat.le_of_ble_eq_true rfl)
          obtain ⟨r1, rfl, h⟩ := hr
          show ds_X mt_X9_findOff Ym 91 [some (.ref 0), some (.int v1), g2, some (.int v3), some (.int v4), some (.int v5)] [.int r1] σ1 Q
          refine ds_if_ge (show decode mt_X9_findOff.2.1 91 = .ok (.ifCond .ge 13, 3) from ds_dec (i := (91, .ifCond .ge 13, 3, 0, 0, 0, .int 0)) ok_X9_findOff 49 rfl) (t := 104) (by decide) (fun hc => ?_) (fun hc => ?_)
          · replace h := h.1 hc
            refine ds_blk (ls2 := [some (.ref 0), some (.int v1), g2, some (.int v3), some (.int v4), some (.int (v5 + (1 : Int32)))]) (st2 := []) (σ2 := σ1) ok_X9_findOff 57 1 104 107 [] rfl rfl rfl rfl trivial ?_
            refine ds_goto (show decode mt_X9_findOff.2.1 107 = .ok (.goto (-55), 3) from ds_dec (i := (107, .goto (-55), 3, 0, 0, 0, .int 0)) ok_X9_findOff 58 rfl) (t := 52) (by decide) ?_
            exact ih v1 v3 v4 (v5 + (1 : Int32)) _ σ1 Q K110 hK110 h
          · replace h := h.2 hc
            obtain ⟨o3, h⟩ := h
            refine ds_blk (ls2 := [some (.ref 0), some (.int v1), g2, some (.int v3), some (.int v4), some (.int (v5 + (1 : Int32)))]) (st2 := []) (σ2 := (ds_wi σ1 17 v5.toNatClampNeg (v3 + (1 : Int32)))) ok_X9_findOff 50 8 94 107 [ds_k Ym 0 9, ds_k Ym 17 10, vp_in v5 21] rfl rfl rfl rfl ⟨⟨by decide, rfl⟩, ⟨by decide, rfl⟩, o3, trivial⟩ ?_
            refine ds_goto (show decode mt_X9_findOff.2.1 107 = .ok (.goto (-55), 3) from ds_dec (i := (107, .goto (-55), 3, 0, 0, 0, .int 0)) ok_X9_findOff 58 rfl) (t := 52) (by decide) ?_
            exact ih v1 v3 v4 (v5 + (1 : Int32)) _ (ds_wi σ1 17 v5.toNatClampNeg (v3 + (1 : Int32))) Q K110 hK110 h
def w_X9_findOff_42 : Nat → (v1 : Int32) → (v3 : Int32) → (v4 : Int32) → (σ : ds_S) → (Q : Option Value → ds_S → Prop) → (K116 : Int32 → Int32 → ds_S → Prop) → Prop
  | 0, _, _, _, _, _, _ => False
  | f + 1, v1, v3, v4, σ, Q, K116 => (((21 : Int32) ≤ v4 → K116 v1 v3 σ) ∧ (¬ (21 : Int32) ≤ v4 → ∃ n, w_X9_findOff_52 n v1 v3 v4 (1 : Int32) σ Q (fun v1_1 v3_1 v4_1 σ1 => w_X9_findOff_42 f v1_1 v3_1 (v4_1 + (1 : Int32)) σ1 Q K116)))
theorem x_X9_findOff_42 : ∀ (f : Nat) (v1 : Int32) (v3 : Int32) (v4 : Int32) (g2 : Option Value) (g5 : Option Value) (σ : ds_S) (Q : Option Value → ds_S → Prop) (K116 : Int32 → Int32 → ds_S → Prop) (hK116 : ∀ (v1 : Int32) (v3 : Int32) (g2 : Option Value) (g4 : Option Value) (g5 : Option Value) (σ2 : ds_S), K116 v1 v3 σ2 → ds_X mt_X9_findOff Ym 116 [some (.ref 0), some (.int v1), g2, some (.int v3), g4, g5] [] σ2 Q), w_X9_findOff_42 f v1 v3 v4 σ Q K116 → ds_X mt_X9_findOff Ym 42 [some (.ref 0), some (.int v1), g2, some (.int v3), some (.int v4), g5] [] σ Q := by
  intro f
  induction f with
  | zero => intro v1 v3 v4 g2 g5 σ Q K116 hK116 h; exact False.elim h
  | succ f ih =>
    intro v1 v3 v4 g2 g5 σ Q K116 hK116 h
    rw [w_X9_findOff_42] at h
    refine ds_blk (ls2 := [some (.ref 0), some (.int v1), g2, some (.int v3), some (.int v4), g5]) (st2 := [.int (21 : Int32), .int v4]) (σ2 := σ) ok_X9_findOff 24 2 42 46 [] rfl rfl rfl rfl trivial ?_
    refine ds_ic_ge (show decode mt_X9_findOff.2.1 46 = .ok (.if_icmp .ge 70, 3) from ds_dec (i := (46, .if_icmp .ge 70, 3, 0, 0, 0, .int 0)) ok_X9_findOff 26 rfl) (t := 116) (by decide) (fun hc => ?_) (fun hc => ?_)
    · replace h := h.1 hc
      exact hK116 v1 v3 _ _ _ σ h
    · replace h := h.2 hc
      refine ds_blk (ls2 := [some (.ref 0), some (.int v1), g2, some (.int v3), some (.int v4), some (.int (1 : Int32))]) (st2 := []) (σ2 := σ) ok_X9_findOff 27 2 49 52 [] rfl rfl rfl rfl trivial ?_
      obtain ⟨n, h⟩ := h
      refine x_X9_findOff_52 n v1 v3 v4 (1 : Int32) _ σ Q _ ?_ h
      · intro v1_1 v3_1 v4_1 g2_1 g5_1 σ1 h
        refine ds_blk (ls2 := [some (.ref 0), some (.int v1_1), g2_1, some (.int v3_1), some (.int (v4_1 + (1 : Int32))), g5_1]) (st2 := []) (σ2 := σ1) ok_X9_findOff 59 1 110 113 [] rfl rfl rfl rfl trivial ?_
        refine ds_goto (show decode mt_X9_findOff.2.1 113 = .ok (.goto (-71), 3) from ds_dec (i := (113, .goto (-71), 3, 0, 0, 0, .int 0)) ok_X9_findOff 60 rfl) (t := 42) (by decide) ?_
        exact ih v1_1 v3_1 (v4_1 + (1 : Int32)) _ _ σ1 Q K116 hK116 h
def w_X9_findOff_33 : Nat → (v1 : Int32) → (v3 : Int32) → (σ : ds_S) → (Q : Option Value → ds_S → Prop) → Prop
  | 0, _, _, _, _ => False
  | f + 1, v1, v3, σ, Q => (((20 : Int32) ≤ v3 → Q none σ) ∧ (¬ (20 : Int32) ≤ v3 → ∃ n, w_X9_findOff_42 n v1 v3 (1 : Int32) σ Q (fun v1_1 v3_1 σ1 => w_X9_findOff_33 f v1_1 (v3_1 + (1 : Int32)) σ1 Q)))
theorem x_X9_findOff_33 : ∀ (f : Nat) (v1 : Int32) (v3 : Int32) (g2 : Option Value) (g4 : Option Value) (g5 : Option Value) (σ : ds_S) (Q : Option Value → ds_S → Prop), w_X9_findOff_33 f v1 v3 σ Q → ds_X mt_X9_findOff Ym 33 [some (.ref 0), some (.int v1), g2, some (.int v3), g4, g5] [] σ Q := by
  intro f
  induction f with
  | zero => intro v1 v3 g2 g4 g5 σ Q h; exact False.elim h
  | succ f ih =>
    intro v1 v3 g2 g4 g5 σ Q h
    rw [w_X9_findOff_33] at h
    refine ds_blk (ls2 := [some (.ref 0), some (.int v1), g2, some (.int v3), g4, g5]) (st2 := [.int (20 : Int32), .int v3]) (σ2 := σ) ok_X9_findOff 19 2 33 36 [] rfl rfl rfl rfl trivial ?_
    refine ds_ic_ge (show decode mt_X9_findOff.2.1 36 = .ok (.if_icmp .ge 86, 3) from ds_dec (i := (36, .if_icmp .ge 86, 3, 0, 0, 0, .int 0)) ok_X9_findOff 21 rfl) (t := 122) (by decide) (fun hc => ?_) (fun hc => ?_)
    · replace h := h.1 hc
      exact ds_vret (show decode mt_X9_findOff.2.1 122 = .ok (.return_, 1) from ds_dec (i := (122, .return_, 1, 0, 0, 0, .int 0)) ok_X9_findOff 63 rfl) rfl h
    · replace h := h.2 hc
      refine ds_blk (ls2 := [some (.ref 0), some (.int v1), g2, some (.int v3), some (.int (1 : Int32)), g5]) (st2 := []) (σ2 := σ) ok_X9_findOff 22 2 39 42 [] rfl rfl rfl rfl trivial ?_
      obtain ⟨n, h⟩ := h
      refine x_X9_findOff_42 n v1 v3 (1 : Int32) _ _ σ Q _ ?_ h
      · intro v1_1 v3_1 g2_1 g4_1 g5_1 σ1 h
        refine ds_blk (ls2 := [some (.ref 0), some (.int v1_1), (ds_nl g2_1), some (.int (v3_1 + (1 : Int32))), g4_1, g5_1]) (st2 := []) (σ2 := σ1) ok_X9_findOff 61 1 116 119 [] rfl rfl rfl rfl trivial ?_
        refine ds_goto (show decode mt_X9_findOff.2.1 119 = .ok (.goto (-86), 3) from ds_dec (i := (119, .goto (-86), 3, 0, 0, 0, .int 0)) ok_X9_findOff 62 rfl) (t := 33) (by decide) ?_
        exact ih v1_1 (v3_1 + (1 : Int32)) _ _ _ σ1 Q h
def w_X9_findOff (a1 : Int32) (a2 : Int32) (σ : ds_S) (Q : Option Value → ds_S → Prop) : Prop := ∃ n, w_X9_findOff_2 n a1 a2 (0 : Int32) σ Q (fun v1_1 σ1 => ∃ n, w_X9_findOff_33 n v1_1 (0 : Int32) σ1 Q)
theorem e_X9_findOff (a1 : Int32) (a2 : Int32) (σ : ds_S) (Q : Option Value → ds_S → Prop) (h : w_X9_findOff a1 a2 σ Q) : ds_E mt_X9_findOff Ym [.ref 0, .int a1, .int a2] σ Q := by
  refine ds_enter (by decide) (Nat.le_of_ble_eq_true rfl) ?_
  show ds_X mt_X9_findOff Ym 0 [some (.ref 0), some (.int a1), some (.int a2), none, none, none] [] σ Q
  unfold w_X9_findOff at h
  refine ds_blk (ls2 := [some (.ref 0), some (.int a1), some (.int a2), some (.int (0 : Int32)), none, none]) (st2 := []) (σ2 := σ) ok_X9_findOff 0 2 0 2 [] rfl rfl rfl rfl trivial ?_
  obtain ⟨n, h⟩ := h
  refine x_X9_findOff_2 n a1 a2 (0 : Int32) _ _ σ Q _ ?_ h
  · intro v1_1 g2_1 g3_1 g4_1 g5_1 σ1 h
    refine ds_blk (ls2 := [some (.ref 0), some (.int v1_1), (ds_nl g2_1), some (.int (0 : Int32)), g4_1, g5_1]) (st2 := []) (σ2 := σ1) ok_X9_findOff 17 2 31 33 [] rfl rfl rfl rfl trivial ?_
    obtain ⟨n, h⟩ := h
    refine x_X9_findOff_33 n v1_1 (0 : Int32) _ _ _ σ1 Q h
def w_X9_between (a1 : Int32) (a2 : Int32) (σ : ds_S) (Q : Option Value → ds_S → Prop) : Prop := ds_EI mt_X9_whyNot Ym [.ref 0, .int a1, .int a2] σ (fun r1 σ1 => ((0 ≤ r1 → ds_EV mt_X9_findOff Ym [.ref 0, .int a1, .int a2] σ1 (fun σ2 => vp_in a1 10 ∧ vp_in (σ2.1 4 a1.toNatClampNeg) 21 ∧ (((1000000 : Int32) ≤ (σ2.1 17 ((σ2.1 4 a1.toNatClampNeg).toNatClampNeg)) → Q (some (.int (-6 : Int32))) σ2) ∧ (¬ (1000000 : Int32) ≤ (σ2.1 17 ((σ2.1 4 a1.toNatClampNeg).toNatClampNeg)) → Q (some (.int (σ2.1 17 ((σ2.1 4 a1.toNatClampNeg).toNatClampNeg)))) σ2)))) ∧ (¬ 0 ≤ r1 → Q (some (.int r1)) σ1)))
theorem e_X9_between (a1 : Int32) (a2 : Int32) (σ : ds_S) (Q : Option Value → ds_S → Prop) (h : w_X9_between a1 a2 σ Q) : ds_E mt_X9_between Ym [.ref 0, .int a1, .int a2] σ Q := by
  refine ds_enter (by decide) (Nat.le_of_ble_eq_true rfl) ?_
  show ds_X mt_X9_between Ym 0 [some (.ref 0), some (.int a1), some (.int a2), none, none] [] σ Q
  unfold w_X9_between at h
  refine ds_blk (ls2 := [some (.ref 0), some (.int a1), some (.int a2), none, none]) (st2 := [.int a2, .int a1, .ref 0]) (σ2 := σ) ok_X9_between 0 3 0 3 [] rfl rfl rfl rfl trivial ?_
  refine ds_callV (z := mt_X9_whyNot) (b := 0) (as := [.int a1, .int a2]) (rest := []) (show decode mt_X9_between.2.1 3 = .ok (.invokevirtual 220, 3) from ds_dec (i := (3, .invokevirtual 220, 3, 0, 0, 997, .int 0)) ok_X9_between 3 rfl) (ds_E.mono h (fun r σ1 hr => ?_)) ⟨zw_X9_whyNot.1, zw_X9_whyNot.2.1, zw_X9_whyNot.2.2, by decide, by decide⟩ (ds_wb_T (p := 997) (by decide +kernel)) zi_X9_whyNot zs_X9_whyNot (by decide) rfl ⟨_, rfl, rfl⟩ (Nat.le_of_ble_eq_true rfl)
  obtain ⟨r1, rfl, h⟩ := hr
  show ds_X mt_X9_between Ym 6 [some (.ref 0), some (.int a1), some (.int a2), none, none] [.int r1] σ1 Q
  refine ds_blk (ls2 := [some (.ref 0), some (.int a1), some (.int a2), some (.int r1), none]) (st2 := [.int r1]) (σ2 := σ1) ok_X9_between 4 2 6 8 [] rfl rfl rfl rfl trivial ?_
  refine ds_if_ge (show decode mt_X9_between.2.1 8 = .ok (.ifCond .ge 5, 3) from ds_dec (i := (8, .ifCond .ge 5, 3, 0, 0, 0, .int 0)) ok_X9_between 6 rfl) (t := 13) (by decide) (fun hc => ?_) (fun hc => ?_)
  · replace h := h.1 hc
    refine ds_blk (ls2 := [some (.ref 0), some (.int a1), some (.int a2), some (.int r1), none]) (st2 := [.int a2, .int a1, .ref 0]) (σ2 := σ1) ok_X9_between 9 3 13 16 [] rfl rfl rfl rfl trivial ?_
    refine ds_callV (z := mt_X9_findOff) (b := 0) (as := [.int a1, .int a2]) (rest := []) (show decode mt_X9_between.2.1 16 = .ok (.invokevirtual 227, 3) from ds_dec (i := (16, .invokevirtual 227, 3, 0, 0, 1017, .int 0)) ok_X9_between 12 rfl) (ds_E.mono h (fun r σ2 hr => ?_)) ⟨zw_X9_findOff.1, zw_X9_findOff.2.1, zw_X9_findOff.2.2, by decide, by decide⟩ (ds_wb_T (p := 1017) (by decide +kernel)) zi_X9_findOff zs_X9_findOff (by decide) rfl ⟨_, rfl, rfl⟩ (Nat.le_of_ble_eq_true rfl)
    obtain ⟨rfl, h⟩ := hr
    show ds_X mt_X9_between Ym 19 [some (.ref 0), some (.int a1), some (.int a2), some (.int r1), none] [] σ2 Q
    obtain ⟨o1, o2, h⟩ := h
    refine ds_blk (ls2 := [some (.ref 0), some (.int a1), some (.int a2), some (.int r1), some (.int (σ2.1 17 ((σ2.1 4 a1.toNatClampNeg).toNatClampNeg)))]) (st2 := [.int (1000000 : Int32), .int (σ2.1 17 ((σ2.1 4 a1.toNatClampNeg).toNatClampNeg))]) (σ2 := σ2) ok_X9_between 13 10 19 36 [ds_k Ym 0 9, ds_k Ym 0 9, ds_k Ym 4 10, vp_in a1 10, ds_k Ym 17 10, vp_in (σ2.1 4 a1.toNatClampNeg) 21] rfl rfl rfl rfl ⟨⟨by decide, rfl⟩, ⟨by decide, rfl⟩, ⟨by decide, rfl⟩, o1, ⟨by decide, rfl⟩, o2, trivial⟩ ?_
    refine ds_ic_ge (show decode mt_X9_between.2.1 36 = .ok (.if_icmp .ge 8, 3) from ds_dec (i := (36, .if_icmp .ge 8, 3, 0, 0, 0, .int 0)) ok_X9_between 23 rfl) (t := 44) (by decide) (fun hc => ?_) (fun hc => ?_)
    · replace h := h.1 hc
      refine ds_blk (ls2 := [some (.ref 0), some (.int a1), some (.int a2), some (.int r1), some (.int (σ2.1 17 ((σ2.1 4 a1.toNatClampNeg).toNatClampNeg)))]) (st2 := [.int (-6 : Int32)]) (σ2 := σ2) ok_X9_between 26 1 44 46 [] rfl rfl rfl rfl trivial ?_
      exact ds_iret (show decode mt_X9_between.2.1 46 = .ok (.ireturn, 1) from ds_dec (i := (46, .ireturn, 1, 0, 0, 0, .int 0)) ok_X9_between 27 rfl) rfl h
    · replace h := h.2 hc
      refine ds_blk (ls2 := [some (.ref 0), some (.int a1), some (.int a2), some (.int r1), some (.int (σ2.1 17 ((σ2.1 4 a1.toNatClampNeg).toNatClampNeg)))]) (st2 := [.int (σ2.1 17 ((σ2.1 4 a1.toNatClampNeg).toNatClampNeg))]) (σ2 := σ2) ok_X9_between 24 1 39 41 [] rfl rfl rfl rfl trivial ?_
      refine ds_goto (show decode mt_X9_between.2.1 41 = .ok (.goto 5, 3) from ds_dec (i := (41, .goto 5, 3, 0, 0, 0, .int 0)) ok_X9_between 25 rfl) (t := 46) (by decide) ?_
      exact ds_iret (show decode mt_X9_between.2.1 46 = .ok (.ireturn, 1) from ds_dec (i := (46, .ireturn, 1, 0, 0, 0, .int 0)) ok_X9_between 27 rfl) rfl h
  · replace h := h.2 hc
    refine ds_blk (ls2 := [some (.ref 0), some (.int a1), some (.int a2), some (.int r1), none]) (st2 := [.int r1]) (σ2 := σ1) ok_X9_between 7 1 11 12 [] rfl rfl rfl rfl trivial ?_
    exact ds_iret (show decode mt_X9_between.2.1 12 = .ok (.ireturn, 1) from ds_dec (i := (12, .ireturn, 1, 0, 0, 0, .int 0)) ok_X9_between 8 rfl) rfl h
def w_X9_value_80 : Nat → (v1 : Int32) → (v3 : Int32) → (v5 : Int32) → (v6 : Int32) → (v7 : Int32) → (v8 : Int32) → (σ : ds_S) → (Q : Option Value → ds_S → Prop) → (K131 : Int32 → Int32 → Int32 → Int32 → ds_S → Prop) → Prop
  | 0, _, _, _, _, _, _, _, _, _ => False
  | f + 1, v1, v3, v5, v6, v7, v8, σ, Q, K131 => ((v8 ≤ 0 → K131 v1 v3 v6 v7 σ) ∧ (¬ v8 ≤ 0 → vp_in v8 21 ∧ vp_in v5 21 ∧ ((¬ (σ.1 17 v8.toNatClampNeg) = ((σ.1 17 v5.toNatClampNeg) - (1 : Int32)) → w_X9_value_80 f v1 v3 v5 v6 v7 (v8 + (-1 : Int32)) σ Q K131) ∧ ((σ.1 17 v8.toNatClampNeg) = ((σ.1 17 v5.toNatClampNeg) - (1 : Int32)) → ds_EI mt_X9_ringOf Ym [.ref 0, .int v1, .int v5, .int v8] σ (fun r1 σ1 => ((0 ≤ r1 → w_X9_value_80 f v1 v3 v5 v6 v7 (v8 + (-1 : Int32)) σ1 Q K131) ∧ (¬ 0 ≤ r1 → w_X9_value_80 f v1 v3 v5 v6 v8 (v8 + (-1 : Int32)) σ1 Q K131)))))))
theorem x_X9_value_80 : ∀ (f : Nat) (v1 : Int32) (v3 : Int32) (v5 : Int32) (v6 : Int32) (v7 : Int32) (v8 : Int32) (g2 : Option Value) (g4 : Option Value) (σ : ds_S) (Q : Option Value → ds_S → Prop) (K131 : Int32 → Int32 → Int32 → Int32 → ds_S → Prop) (hK131 : ∀ (v1 : Int32) (v3 : Int32) (v6 : Int32) (v7 : Int32) (g2 : Option Value) (g4 : Option Value) (g5 : Option Value) (g8 : Option Value) (σ2 : ds_S), K131 v1 v3 v6 v7 σ2 → ds_X mt_X9_value Ym 131 [some (.ref 0), some (.int v1), g2, some (.int v3), g4, g5, some (.int v6), some (.int v7), g8] [] σ2 Q), w_X9_value_80 f v1 v3 v5 v6 v7 v8 σ Q K131 → ds_X mt_X9_value Ym 80 [some (.ref 0), some (.int v1), g2, some (.int v3), g4, some (.int v5), some (.int v6), some (.int v7), some (.int v8)] [] σ Q := by
  intro f
  induction f with
  | zero => intro v1 v3 v5 v6 v7 v8 g2 g4 σ Q K131 hK131 h; exact False.elim h
  | succ f ih =>
    intro v1 v3 v5 v6 v7 v8 g2 g4 σ Q K131 hK131 h
    rw [w_X9_value_80] at h
    refine ds_blk (ls2 := [some (.ref 0), some (.int v1), g2, some (.int v3), g4, some (.int v5), some (.int v6), some (.int v7), some (.int v8)]) (st2 := [.int v8]) (σ2 := σ) ok_X9_value 47 1 80 82 [] rfl rfl rfl rfl trivial ?_
    refine ds_if_le (show decode mt_X9_value.2.1 82 = .ok (.ifCond .le 49, 3) from ds_dec (i := (82, .ifCond .le 49, 3, 0, 0, 0, .int 0)) ok_X9_value 48 rfl) (t := 131) (by decide) (fun hc => ?_) (fun hc => ?_)
    · replace h := h.1 hc
      exact hK131 v1 v3 v6 v7 _ _ _ _ σ h
    · replace h := h.2 hc
      obtain ⟨o1, o2, h⟩ := h
      refine ds_blk (ls2 := [some (.ref 0), some (.int v1), g2, some (.int v3), g4, some (.int v5), some (.int v6), some (.int v7), some (.int v8)]) (st2 := [.int ((σ.1 17 v5.toNatClampNeg) - (1 : Int32)), .int (σ.1 17 v8.toNatClampNeg)]) (σ2 := σ) ok_X9_value 49 10 85 101 [ds_k Ym 0 9, ds_k Ym 17 10, vp_in v8 21, ds_k Ym 0 9, ds_k Ym 17 10, vp_in v5 21] rfl rfl rfl rfl ⟨⟨by decide, rfl⟩, ⟨by decide, rfl⟩, o1, ⟨by decide, rfl⟩, ⟨by decide, rfl⟩, o2, trivial⟩ ?_
      refine ds_ic_ne (show decode mt_X9_value.2.1 101 = .ok (.if_icmp .ne 20, 3) from ds_dec (i := (101, .if_icmp .ne 20, 3, 0, 0, 0, .int 0)) ok_X9_value 59 rfl) (t := 121) (by decide) (fun hc => ?_) (fun hc => ?_)
      · replace h := h.1 hc
        refine ds_blk (ls2 := [some (.ref 0), some (.int v1), g2, some (.int v3), g4, some (.int v5), some (.int v6), some (.int v7), some (.int (v8 + (-1 : Int32)))]) (st2 := []) (σ2 := σ) ok_X9_value 68 3 121 128 [] rfl rfl rfl rfl trivial ?_
        refine ds_goto (show decode mt_X9_value.2.1 128 = .ok (.goto (-48), 3) from ds_dec (i := (128, .goto (-48), 3, 0, 0, 0, .int 0)) ok_X9_value 71 rfl) (t := 80) (by decide) ?_
        exact ih v1 v3 v5 v6 v7 (v8 + (-1 : Int32)) _ _ σ Q K131 hK131 h
      · replace h := h.2 hc
        refine ds_blk (ls2 := [some (.ref 0), some (.int v1), g2, some (.int v3), g4, some (.int v5), some (.int v6), some (.int v7), some (.int v8)]) (st2 := [.int v8, .int v5, .int v1, .ref 0]) (σ2 := σ) ok_X9_value 60 4 104 110 [] rfl rfl rfl rfl trivial ?_
        refine ds_callV (z := mt_X9_ringOf) (b := 0) (as := [.int v1, .int v5, .int v8]) (rest := []) (show decode mt_X9_value.2.1 110 = .ok (.invokevirtual 224, 3) from ds_dec (i := (110, .invokevirtual 224, 3, 0, 0, 1001, .int 0)) ok_X9_value 64 rfl) (ds_E.mono h (fun r σ1 hr => ?_)) ⟨zw_X9_ringOf.1, zw_X9_ringOf.2.1, zw_X9_ringOf.2.2, by decide, by decide⟩ (ds_wb_T (p := 1001) (by decide +kernel)) zi_X9_ringOf zs_X9_ringOf (by decide) rfl ⟨_, rfl, rfl⟩ (Nat.le_of_ble_eq_true rfl)
        obtain ⟨r1, rfl, h⟩ := hr
        show ds_X mt_X9_value Ym 113 [some (.ref 0), some (.int v1), g2, some (.int v3), g4, some (.int v5), some (.int v6), some (.int v7), some (.int v8)] [.int r1] σ1 Q
        refine ds_if_ge (show decode mt_X9_value.2.1 113 = .ok (.ifCond .ge 8, 3) from ds_dec (i := (113, .ifCond .ge 8, 3, 0, 0, 0, .int 0)) ok_X9_value 65 rfl) (t := 121) (by decide) (fun hc => ?_) (fun hc => ?_)
        · replace h := h.1 hc
          refine ds_blk (ls2 := [some (.ref 0), some (.int v1), g2, some (.int v3), g4, some (.int v5), some (.int v6), some (.int v7), some (.int (v8 + (-1 : Int32)))]) (st2 := []) (σ2 := σ1) ok_X9_value 68 3 121 128 [] rfl rfl rfl rfl trivial ?_
          refine ds_goto (show decode mt_X9_value.2.1 128 = .ok (.goto (-48), 3) from ds_dec (i := (128, .goto (-48), 3, 0, 0, 0, .int 0)) ok_X9_value 71 rfl) (t := 80) (by decide) ?_
          exact ih v1 v3 v5 v6 v7 (v8 + (-1 : Int32)) _ _ σ1 Q K131 hK131 h
        · replace h := h.2 hc
          refine ds_blk (ls2 := [some (.ref 0), some (.int v1), g2, some (.int v3), g4, some (.int v5), some (.int v6), some (.int v7), some (.int v8)]) (st2 := [.int v8]) (σ2 := σ1) ok_X9_value 66 1 116 118 [] rfl rfl rfl rfl trivial ?_
          refine ds_goto (show decode mt_X9_value.2.1 118 = .ok (.goto 5, 3) from ds_dec (i := (118, .goto 5, 3, 0, 0, 0, .int 0)) ok_X9_value 67 rfl) (t := 123) (by decide) ?_
          refine ds_blk (ls2 := [some (.ref 0), some (.int v1), g2, some (.int v3), g4, some (.int v5), some (.int v6), some (.int v8), some (.int (v8 + (-1 : Int32)))]) (st2 := []) (σ2 := σ1) ok_X9_value 69 2 123 128 [] rfl rfl rfl rfl trivial ?_
          refine ds_goto (show decode mt_X9_value.2.1 128 = .ok (.goto (-48), 3) from ds_dec (i := (128, .goto (-48), 3, 0, 0, 0, .int 0)) ok_X9_value 71 rfl) (t := 80) (by decide) ?_
          exact ih v1 v3 v5 v6 v8 (v8 + (-1 : Int32)) _ _ σ1 Q K131 hK131 h
def w_X9_value_67 : Nat → (v1 : Int32) → (v3 : Int32) → (v5 : Int32) → (v6 : Int32) → (σ : ds_S) → (Q : Option Value → ds_S → Prop) → Prop
  | 0, _, _, _, _, _, _ => False
  | f + 1, v1, v3, v5, v6, σ, Q => ((v3 < v6 → Q (some (.int v5)) σ) ∧ (¬ v3 < v6 → ∃ n, w_X9_value_80 n v1 v3 v5 v6 (0 : Int32) (20 : Int32) σ Q (fun v1_1 v3_1 v6_1 v7_1 σ1 => w_X9_value_67 f v1_1 v3_1 v7_1 (v6_1 + (1 : Int32)) σ1 Q)))
theorem x_X9_value_67 : ∀ (f : Nat) (v1 : Int32) (v3 : Int32) (v5 : Int32) (v6 : Int32) (g2 : Option Value) (g4 : Option Value) (g7 : Option Value) (g8 : Option Value) (σ : ds_S) (Q : Option Value → ds_S → Prop), w_X9_value_67 f v1 v3 v5 v6 σ Q → ds_X mt_X9_value Ym 67 [some (.ref 0), some (.int v1), g2, some (.int v3), g4, some (.int v5), some (.int v6), g7, g8] [] σ Q := by
  intro f
  induction f with
  | zero => intro v1 v3 v5 v6 g2 g4 g7 g8 σ Q h; exact False.elim h
  | succ f ih =>
    intro v1 v3 v5 v6 g2 g4 g7 g8 σ Q h
    rw [w_X9_value_67] at h
    refine ds_blk (ls2 := [some (.ref 0), some (.int v1), g2, some (.int v3), g4, some (.int v5), some (.int v6), g7, g8]) (st2 := [.int v3, .int v6]) (σ2 := σ) ok_X9_value 40 2 67 70 [] rfl rfl rfl rfl trivial ?_
    refine ds_ic_gt (show decode mt_X9_value.2.1 70 = .ok (.if_icmp .gt 71, 3) from ds_dec (i := (70, .if_icmp .gt 71, 3, 0, 0, 0, .int 0)) ok_X9_value 42 rfl) (t := 141) (by decide) (fun hc => ?_) (fun hc => ?_)
    · replace h := h.1 hc
      refine ds_blk (ls2 := [some (.ref 0), some (.int v1), g2, some (.int v3), g4, some (.int v5), some (.int v6), g7, g8]) (st2 := [.int v5]) (σ2 := σ) ok_X9_value 76 1 141 143 [] rfl rfl rfl rfl trivial ?_
      exact ds_iret (show decode mt_X9_value.2.1 143 = .ok (.ireturn, 1) from ds_dec (i := (143, .ireturn, 1, 0, 0, 0, .int 0)) ok_X9_value 77 rfl) rfl h
    · replace h := h.2 hc
      refine ds_blk (ls2 := [some (.ref 0), some (.int v1), g2, some (.int v3), g4, some (.int v5), some (.int v6), some (.int (0 : Int32)), some (.int (20 : Int32))]) (st2 := []) (σ2 := σ) ok_X9_value 43 4 73 80 [] rfl rfl rfl rfl trivial ?_
      obtain ⟨n, h⟩ := h
      refine x_X9_value_80 n v1 v3 v5 v6 (0 : Int32) (20 : Int32) _ _ σ Q _ ?_ h
      · intro v1_1 v3_1 v6_1 v7_1 g2_1 g4_1 g5_1 g8_1 σ1 h
        refine ds_blk (ls2 := [some (.ref 0), some (.int v1_1), g2_1, some (.int v3_1), (ds_nl g4_1), some (.int v7_1), some (.int (v6_1 + (1 : Int32))), some (.int v7_1), g8_1]) (st2 := []) (σ2 := σ1) ok_X9_value 72 3 131 138 [] rfl rfl rfl rfl trivial ?_
        refine ds_goto (show decode mt_X9_value.2.1 138 = .ok (.goto (-71), 3) from ds_dec (i := (138, .goto (-71), 3, 0, 0, 0, .int 0)) ok_X9_value 75 rfl) (t := 67) (by decide) ?_
        exact ih v1_1 v3_1 v7_1 (v6_1 + (1 : Int32)) _ _ _ _ σ1 Q h
def w_X9_value (a1 : Int32) (a2 : Int32) (a3 : Int32) (σ : ds_S) (Q : Option Value → ds_S → Prop) : Prop := ds_EI mt_X9_whyNot Ym [.ref 0, .int a1, .int a2] σ (fun r1 σ1 => ((0 ≤ r1 → ds_EV mt_X9_findOff Ym [.ref 0, .int a1, .int a2] σ1 (fun σ2 => vp_in a1 10 ∧ vp_in (σ2.1 4 a1.toNatClampNeg) 21 ∧ (((σ2.1 17 ((σ2.1 4 a1.toNatClampNeg).toNatClampNeg)) = (1000000 : Int32) → Q (some (.int (-6 : Int32))) σ2) ∧ (¬ (σ2.1 17 ((σ2.1 4 a1.toNatClampNeg).toNatClampNeg)) = (1000000 : Int32) → vp_in (σ2.1 4 a1.toNatClampNeg) 21 ∧ ((¬ (q_in a3.toInt64 (0 : Int64) (((σ2.1 17 ((σ2.1 4 a1.toNatClampNeg).toNatClampNeg)) - (1 : Int32)).toInt64)) = 0 → ∃ n, w_X9_value_67 n a1 a3 (σ2.1 4 a1.toNatClampNeg) (0 : Int32) σ2 Q) ∧ ((q_in a3.toInt64 (0 : Int64) (((σ2.1 17 ((σ2.1 4 a1.toNatClampNeg).toNatClampNeg)) - (1 : Int32)).toInt64)) = 0 → Q (some (.int (-6 : Int32))) σ2)))))) ∧ (¬ 0 ≤ r1 → Q (some (.int r1)) σ1)))
theorem e_X9_value (a1 : Int32) (a2 : Int32) (a3 : Int32) (σ : ds_S) (Q : Option Value → ds_S → Prop) (h : w_X9_value a1 a2 a3 σ Q) : ds_E mt_X9_value Ym [.ref 0, .int a1, .int a2, .int a3] σ Q := by
  refine ds_enter (by decide) (Nat.le_of_ble_eq_true rfl) ?_
  show ds_X mt_X9_value Ym 0 [some (.ref 0), some (.int a1), some (.int a2), some (.int a3), none, none, none, none, none] [] σ Q
  unfold w_X9_value at h
  refine ds_blk (ls2 := [some (.ref 0), some (.int a1), some (.int a2), some (.int a3), none, none, none, none, none]) (st2 := [.int a2, .int a1, .ref 0]) (σ2 := σ) ok_X9_value 0 3 0 3 [] rfl rfl rfl rfl trivial ?_
  refine ds_callV (z := mt_X9_whyNot) (b := 0) (as := [.int a1, .int a2]) (rest := []) (show decode mt_X9_value.2.1 3 = .ok (.invokevirtual 220, 3) from ds_dec (i := (3, .invokevirtual 220, 3, 0, 0, 997, .int 0)) ok_X9_value 3 rfl) (ds_E.mono h (fun r σ1 hr => ?_)) ⟨zw_X9_whyNot.1, zw_X9_whyNot.2.1, zw_X9_whyNot.2.2, by decide, by decide⟩ (ds_wb_T (p := 997) (by decide +kernel)) zi_X9_whyNot zs_X9_whyNot (by decide) rfl ⟨_, rfl, rfl⟩ (Nat.le_of_ble_eq_true rfl)
  obtain ⟨r1, rfl, h⟩ := hr
  show ds_X mt_X9_value Ym 6 [some (.ref 0), some (.int a1), some (.int a2), some (.int a3), none, none, none, none, none] [.int r1] σ1 Q
  refine ds_blk (ls2 := [some (.ref 0), some (.int a1), some (.int a2), some (.int a3), some (.int r1), none, none, none, none]) (st2 := [.int r1]) (σ2 := σ1) ok_X9_value 4 2 6 10 [] rfl rfl rfl rfl trivial ?_
  refine ds_if_ge (show decode mt_X9_value.2.1 10 = .ok (.ifCond .ge 6, 3) from ds_dec (i := (10, .ifCond .ge 6, 3, 0, 0, 0, .int 0)) ok_X9_value 6 rfl) (t := 16) (by decide) (fun hc => ?_) (fun hc => ?_)
  · replace h := h.1 hc
    refine ds_blk (ls2 := [some (.ref 0), some (.int a1), some (.int a2), some (.int a3), some (.int r1), none, none, none, none]) (st2 := [.int a2, .int a1, .ref 0]) (σ2 := σ1) ok_X9_value 9 3 16 19 [] rfl rfl rfl rfl trivial ?_
    refine ds_callV (z := mt_X9_findOff) (b := 0) (as := [.int a1, .int a2]) (rest := []) (show decode mt_X9_value.2.1 19 = .ok (.invokevirtual 227, 3) from ds_dec (i := (19, .invokevirtual 227, 3, 0, 0, 1017, .int 0)) ok_X9_value 12 rfl) (ds_E.mono h (fun r σ2 hr => ?_)) ⟨zw_X9_findOff.1, zw_X9_findOff.2.1, zw_X9_findOff.2.2, by decide, by decide⟩ (ds_wb_T (p := 1017) (by decide +kernel)) zi_X9_findOff zs_X9_findOff (by decide) rfl ⟨_, rfl, rfl⟩ (Nat.le_of_ble_eq_true rfl)
    obtain ⟨rfl, h⟩ := hr
    show ds_X mt_X9_value Ym 22 [some (.ref 0), some (.int a1), some (.int a2), some (.int a3), some (.int r1), none, none, none, none] [] σ2 Q
    obtain ⟨o1, o2, h⟩ := h
    refine ds_blk (ls2 := [some (.ref 0), some (.int a1), some (.int a2), some (.int a3), some (.int r1), some (.int (σ2.1 4 a1.toNatClampNeg)), none, none, none]) (st2 := [.int (1000000 : Int32), .int (σ2.1 17 ((σ2.1 4 a1.toNatClampNeg).toNatClampNeg))]) (σ2 := σ2) ok_X9_value 13 10 22 39 [ds_k Ym 0 9, ds_k Ym 4 10, vp_in a1 10, ds_k Ym 0 9, ds_k Ym 17 10, vp_in (σ2.1 4 a1.toNatClampNeg) 21] rfl rfl rfl rfl ⟨⟨by decide, rfl⟩, ⟨by decide, rfl⟩, o1, ⟨by decide, rfl⟩, ⟨by decide, rfl⟩, o2, trivial⟩ ?_
    refine ds_ic_eq (show decode mt_X9_value.2.1 39 = .ok (.if_icmp .eq 22, 3) from ds_dec (i := (39, .if_icmp .eq 22, 3, 0, 0, 0, .int 0)) ok_X9_value 23 rfl) (t := 61) (by decide) (fun hc => ?_) (fun hc => ?_)
    · replace h := h.1 hc
      refine ds_blk (ls2 := [some (.ref 0), some (.int a1), some (.int a2), some (.int a3), some (.int r1), some (.int (σ2.1 4 a1.toNatClampNeg)), none, none, none]) (st2 := [.int (-6 : Int32)]) (σ2 := σ2) ok_X9_value 36 1 61 63 [] rfl rfl rfl rfl trivial ?_
      exact ds_iret (show decode mt_X9_value.2.1 63 = .ok (.ireturn, 1) from ds_dec (i := (63, .ireturn, 1, 0, 0, 0, .int 0)) ok_X9_value 37 rfl) rfl h
    · replace h := h.2 hc
      obtain ⟨o3, h⟩ := h
      refine ds_blk (ls2 := [some (.ref 0), some (.int a1), some (.int a2), some (.int a3), some (.int r1), some (.int (σ2.1 4 a1.toNatClampNeg)), none, none, none]) (st2 := [.long (((σ2.1 17 ((σ2.1 4 a1.toNatClampNeg).toNatClampNeg)) - (1 : Int32)).toInt64), .long (0 : Int64), .long a3.toInt64]) (σ2 := σ2) ok_X9_value 24 10 42 55 [ds_k Ym 0 9, ds_k Ym 17 10, vp_in (σ2.1 4 a1.toNatClampNeg) 21] rfl rfl rfl rfl ⟨⟨by decide, rfl⟩, ⟨by decide, rfl⟩, o3, trivial⟩ ?_
      refine ds_callS (z := mt_X9_in) (as := [.long a3.toInt64, .long (0 : Int64), .long (((σ2.1 17 ((σ2.1 4 a1.toNatClampNeg).toNatClampNeg)) - (1 : Int32)).toInt64)]) (rest := []) (show decode mt_X9_value.2.1 55 = .ok (.invokestatic 73, 3) from ds_dec (i := (55, .invokestatic 73, 3, 0, 0, 836, .int 0)) ok_X9_value 34 rfl) (ds_E.mono (sp_X9_in a3.toInt64 (0 : Int64) (((σ2.1 17 ((σ2.1 4 a1.toNatClampNeg).toNatClampNeg)) - (1 : Int32)).toInt64) σ2 ) (fun r σ3 hr => ?_)) ⟨zw_X9_in.1, zw_X9_in.2.1, zw_X9_in.2.2, by decide, by decide⟩ (ds_wb_T (p := 836) (by decide +kernel)) zt_X9_in (Nat.le_of_ble_eq_true rfl)
      obtain ⟨x9, rfl, e8, e9⟩ := hr
      rw [e8, e9]
      show ds_X mt_X9_value Ym 58 [some (.ref 0), some (.int a1), some (.int a2), some (.int a3), some (.int r1), some (.int (σ2.1 4 a1.toNatClampNeg)), none, none, none] [.int (q_in a3.toInt64 (0 : Int64) (((σ2.1 17 ((σ2.1 4 a1.toNatClampNeg).toNatClampNeg)) - (1 : Int32)).toInt64))] σ2 Q
      refine ds_if_ne (show decode mt_X9_value.2.1 58 = .ok (.ifCond .ne 6, 3) from ds_dec (i := (58, .ifCond .ne 6, 3, 0, 0, 0, .int 0)) ok_X9_value 35 rfl) (t := 64) (by decide) (fun hc => ?_) (fun hc => ?_)
      · replace h := h.1 hc
        refine ds_blk (ls2 := [some (.ref 0), some (.int a1), some (.int a2), some (.int a3), some (.int r1), some (.int (σ2.1 4 a1.toNatClampNeg)), some (.int (0 : Int32)), none, none]) (st2 := []) (σ2 := σ2) ok_X9_value 38 2 64 67 [] rfl rfl rfl rfl trivial ?_
        obtain ⟨n, h⟩ := h
        refine x_X9_value_67 n a1 a3 (σ2.1 4 a1.toNatClampNeg) (0 : Int32) _ _ _ _ σ2 Q h
      · replace h := h.2 hc
        refine ds_blk (ls2 := [some (.ref 0), some (.int a1), some (.int a2), some (.int a3), some (.int r1), some (.int (σ2.1 4 a1.toNatClampNeg)), none, none, none]) (st2 := [.int (-6 : Int32)]) (σ2 := σ2) ok_X9_value 36 1 61 63 [] rfl rfl rfl rfl trivial ?_
        exact ds_iret (show decode mt_X9_value.2.1 63 = .ok (.ireturn, 1) from ds_dec (i := (63, .ireturn, 1, 0, 0, 0, .int 0)) ok_X9_value 37 rfl) rfl h
  · replace h := h.2 hc
    refine ds_blk (ls2 := [some (.ref 0), some (.int a1), some (.int a2), some (.int a3), some (.int r1), none, none, none, none]) (st2 := [.int r1]) (σ2 := σ1) ok_X9_value 7 1 13 15 [] rfl rfl rfl rfl trivial ?_
    exact ds_iret (show decode mt_X9_value.2.1 15 = .ok (.ireturn, 1) from ds_dec (i := (15, .ireturn, 1, 0, 0, 0, .int 0)) ok_X9_value 8 rfl) rfl h
def w_X9_grow (a1 : Int32) (a2 : Int32) (σ : ds_S) (Q : Option Value → ds_S → Prop) : Prop := ((¬ (q_bx a1 3) = 0 → ((¬ (q_in a2.toInt64 (0 : Int64) (1 : Int64)) = 0 → ds_EV mt_X9_findWorst Ym [.ref 0, .int a1] σ (fun σ3 => ((¬ (lg_cmp (σ3.2 0 19) (0 : Int64)) = 0 → ((¬ a2 = 0 → Q (some (.long (σ3.2 0 19))) σ3) ∧ (a2 = 0 → Q (some (.long (σ3.2 0 20))) σ3))) ∧ ((lg_cmp (σ3.2 0 19) (0 : Int64)) = 0 → Q (some (.long (-1000000000000000006 : Int64))) σ3)))) ∧ ((q_in a2.toInt64 (0 : Int64) (1 : Int64)) = 0 → Q (some (.long (-1000000000000000002 : Int64))) σ))) ∧ ((q_bx a1 3) = 0 → Q (some (.long (-1000000000000000001 : Int64))) σ))
theorem e_X9_grow (a1 : Int32) (a2 : Int32) (σ : ds_S) (Q : Option Value → ds_S → Prop) (h : w_X9_grow a1 a2 σ Q) : ds_E mt_X9_grow Ym [.ref 0, .int a1, .int a2] σ Q := by
  refine ds_enter (by decide) (Nat.le_of_ble_eq_true rfl) ?_
  show ds_X mt_X9_grow Ym 0 [some (.ref 0), some (.int a1), some (.int a2)] [] σ Q
  unfold w_X9_grow at h
  refine ds_blk (ls2 := [some (.ref 0), some (.int a1), some (.int a2)]) (st2 := [.int a1]) (σ2 := σ) ok_X9_grow 0 1 0 1 [] rfl rfl rfl rfl trivial ?_
  refine ds_callS (z := mt_X9_isTable) (as := [.int a1]) (rest := []) (show decode mt_X9_grow.2.1 1 = .ok (.invokestatic 99, 3) from ds_dec (i := (1, .invokestatic 99, 3, 0, 0, 869, .int 0)) ok_X9_grow 1 rfl) (ds_E.mono (sp_X9_isTable a1 σ ) (fun r σ1 hr => ?_)) ⟨zw_X9_isTable.1, zw_X9_isTable.2.1, zw_X9_isTable.2.2, by decide, by decide⟩ (ds_wb_T (p := 869) (by decide +kernel)) zt_X9_isTable (Nat.le_of_ble_eq_true rfl)
  obtain ⟨x9, rfl, e8, e9⟩ := hr
  rw [e8, e9]
  show ds_X mt_X9_grow Ym 4 [some (.ref 0), some (.int a1), some (.int a2)] [.int (q_bx a1 3)] σ Q
  refine ds_if_ne (show decode mt_X9_grow.2.1 4 = .ok (.ifCond .ne 7, 3) from ds_dec (i := (4, .ifCond .ne 7, 3, 0, 0, 0, .int 0)) ok_X9_grow 2 rfl) (t := 11) (by decide) (fun hc => ?_) (fun hc => ?_)
  · replace h := h.1 hc
    refine ds_blk (ls2 := [some (.ref 0), some (.int a1), some (.int a2)]) (st2 := [.long (1 : Int64), .long (0 : Int64), .long a2.toInt64]) (σ2 := σ) ok_X9_grow 5 4 11 15 [] rfl rfl rfl rfl trivial ?_
    refine ds_callS (z := mt_X9_in) (as := [.long a2.toInt64, .long (0 : Int64), .long (1 : Int64)]) (rest := []) (show decode mt_X9_grow.2.1 15 = .ok (.invokestatic 73, 3) from ds_dec (i := (15, .invokestatic 73, 3, 0, 0, 836, .int 0)) ok_X9_grow 9 rfl) (ds_E.mono (sp_X9_in a2.toInt64 (0 : Int64) (1 : Int64) σ ) (fun r σ2 hr => ?_)) ⟨zw_X9_in.1, zw_X9_in.2.1, zw_X9_in.2.2, by decide, by decide⟩ (ds_wb_T (p := 836) (by decide +kernel)) zt_X9_in (Nat.le_of_ble_eq_true rfl)
    obtain ⟨x9, rfl, e8, e9⟩ := hr
    rw [e8, e9]
    show ds_X mt_X9_grow Ym 18 [some (.ref 0), some (.int a1), some (.int a2)] [.int (q_in a2.toInt64 (0 : Int64) (1 : Int64))] σ Q
    refine ds_if_ne (show decode mt_X9_grow.2.1 18 = .ok (.ifCond .ne 7, 3) from ds_dec (i := (18, .ifCond .ne 7, 3, 0, 0, 0, .int 0)) ok_X9_grow 10 rfl) (t := 25) (by decide) (fun hc => ?_) (fun hc => ?_)
    · replace h := h.1 hc
      refine ds_blk (ls2 := [some (.ref 0), some (.int a1), some (.int a2)]) (st2 := [.int a1, .ref 0]) (σ2 := σ) ok_X9_grow 13 2 25 27 [] rfl rfl rfl rfl trivial ?_
      refine ds_callV (z := mt_X9_findWorst) (b := 0) (as := [.int a1]) (rest := []) (show decode mt_X9_grow.2.1 27 = .ok (.invokevirtual 167, 3) from ds_dec (i := (27, .invokevirtual 167, 3, 0, 0, 938, .int 0)) ok_X9_grow 15 rfl) (ds_E.mono h (fun r σ3 hr => ?_)) ⟨zw_X9_findWorst.1, zw_X9_findWorst.2.1, zw_X9_findWorst.2.2, by decide, by decide⟩ (ds_wb_T (p := 938) (by decide +kernel)) zi_X9_findWorst zs_X9_findWorst (by decide) rfl ⟨_, rfl, rfl⟩ (Nat.le_of_ble_eq_true rfl)
      obtain ⟨rfl, h⟩ := hr
      show ds_X mt_X9_grow Ym 30 [some (.ref 0), some (.int a1), some (.int a2)] [] σ3 Q
      refine ds_blk (ls2 := [some (.ref 0), some (.int a1), some (.int a2)]) (st2 := [.int (lg_cmp (σ3.2 0 19) (0 : Int64))]) (σ2 := σ3) ok_X9_grow 16 4 30 36 [ds_k Ym 0 9] rfl rfl rfl rfl ⟨⟨by decide, rfl⟩, trivial⟩ ?_
      refine ds_if_ne (show decode mt_X9_grow.2.1 36 = .ok (.ifCond .ne 9, 3) from ds_dec (i := (36, .ifCond .ne 9, 3, 0, 0, 0, .int 0)) ok_X9_grow 20 rfl) (t := 45) (by decide) (fun hc => ?_) (fun hc => ?_)
      · replace h := h.1 hc
        refine ds_blk (ls2 := [some (.ref 0), some (.int a1), some (.int a2)]) (st2 := [.int a2]) (σ2 := σ3) ok_X9_grow 23 1 45 46 [] rfl rfl rfl rfl trivial ?_
        refine ds_if_ne (show decode mt_X9_grow.2.1 46 = .ok (.ifCond .ne 10, 3) from ds_dec (i := (46, .ifCond .ne 10, 3, 0, 0, 0, .int 0)) ok_X9_grow 24 rfl) (t := 56) (by decide) (fun hc => ?_) (fun hc => ?_)
        · replace h := h.1 hc
          refine ds_blk (ls2 := [some (.ref 0), some (.int a1), some (.int a2)]) (st2 := [.long (σ3.2 0 19)]) (σ2 := σ3) ok_X9_grow 28 2 56 60 [ds_k Ym 0 9] rfl rfl rfl rfl ⟨⟨by decide, rfl⟩, trivial⟩ ?_
          exact ds_lret (show decode mt_X9_grow.2.1 60 = .ok (.lreturn, 1) from ds_dec (i := (60, .lreturn, 1, 0, 0, 0, .int 0)) ok_X9_grow 30 rfl) rfl h
        · replace h := h.2 hc
          refine ds_blk (ls2 := [some (.ref 0), some (.int a1), some (.int a2)]) (st2 := [.long (σ3.2 0 20)]) (σ2 := σ3) ok_X9_grow 25 2 49 53 [ds_k Ym 0 9] rfl rfl rfl rfl ⟨⟨by decide, rfl⟩, trivial⟩ ?_
          refine ds_goto (show decode mt_X9_grow.2.1 53 = .ok (.goto 7, 3) from ds_dec (i := (53, .goto 7, 3, 0, 0, 0, .int 0)) ok_X9_grow 27 rfl) (t := 60) (by decide) ?_
          exact ds_lret (show decode mt_X9_grow.2.1 60 = .ok (.lreturn, 1) from ds_dec (i := (60, .lreturn, 1, 0, 0, 0, .int 0)) ok_X9_grow 30 rfl) rfl h
      · replace h := h.2 hc
        refine ds_blk (ls2 := [some (.ref 0), some (.int a1), some (.int a2)]) (st2 := [.long (-1000000000000000006 : Int64)]) (σ2 := σ3) ok_X9_grow 21 1 39 42 [] rfl rfl rfl rfl trivial ?_
        refine ds_goto (show decode mt_X9_grow.2.1 42 = .ok (.goto 18, 3) from ds_dec (i := (42, .goto 18, 3, 0, 0, 0, .int 0)) ok_X9_grow 22 rfl) (t := 60) (by decide) ?_
        exact ds_lret (show decode mt_X9_grow.2.1 60 = .ok (.lreturn, 1) from ds_dec (i := (60, .lreturn, 1, 0, 0, 0, .int 0)) ok_X9_grow 30 rfl) rfl h
    · replace h := h.2 hc
      refine ds_blk (ls2 := [some (.ref 0), some (.int a1), some (.int a2)]) (st2 := [.long (-1000000000000000002 : Int64)]) (σ2 := σ) ok_X9_grow 11 1 21 24 [] rfl rfl rfl rfl trivial ?_
      exact ds_lret (show decode mt_X9_grow.2.1 24 = .ok (.lreturn, 1) from ds_dec (i := (24, .lreturn, 1, 0, 0, 0, .int 0)) ok_X9_grow 12 rfl) rfl h
  · replace h := h.2 hc
    refine ds_blk (ls2 := [some (.ref 0), some (.int a1), some (.int a2)]) (st2 := [.long (-1000000000000000001 : Int64)]) (σ2 := σ) ok_X9_grow 3 1 7 10 [] rfl rfl rfl rfl trivial ?_
    exact ds_lret (show decode mt_X9_grow.2.1 10 = .ok (.lreturn, 1) from ds_dec (i := (10, .lreturn, 1, 0, 0, 0, .int 0)) ok_X9_grow 4 rfl) rfl h
def w_X9_year_26 : Nat → (v1 : Int32) → (v2 : Int32) → (v3 : Int32) → (σ : ds_S) → (Q : Option Value → ds_S → Prop) → (K55 : Int32 → Int32 → ds_S → Prop) → Prop
  | 0, _, _, _, _, _, _ => False
  | f + 1, v1, v2, v3, σ, Q, K55 => (((36 : Int32) ≤ v3 → K55 v1 v2 σ) ∧ (¬ (36 : Int32) ≤ v3 → vp_in (((36 : Int32) * v1) + v3) 108 ∧ vp_in v3 36 ∧ w_X9_year_26 f v1 v2 (v3 + (1 : Int32)) (ds_wi σ 18 v3.toNatClampNeg (σ.1 7 ((((36 : Int32) * v1) + v3).toNatClampNeg))) Q K55))
theorem x_X9_year_26 : ∀ (f : Nat) (v1 : Int32) (v2 : Int32) (v3 : Int32) (g4 : Option Value) (g5 : Option Value) (g6 : Option Value) (g7 : Option Value) (σ : ds_S) (Q : Option Value → ds_S → Prop) (K55 : Int32 → Int32 → ds_S → Prop) (hK55 : ∀ (v1 : Int32) (v2 : Int32) (g3 : Option Value) (g4 : Option Value) (g5 : Option Value) (g6 : Option Value) (g7 : Option Value) (σ2 : ds_S), K55 v1 v2 σ2 → ds_X mt_X9_year Ym 55 [some (.ref 0), some (.int v1), some (.int v2), g3, g4, g5, g6, g7] [] σ2 Q), w_X9_year_26 f v1 v2 v3 σ Q K55 → ds_X mt_X9_year Ym 26 [some (.ref 0), some (.int v1), some (.int v2), some (.int v3), g4, g5, g6, g7] [] σ Q := by
  intro f
  induction f with
  | zero => intro v1 v2 v3 g4 g5 g6 g7 σ Q K55 hK55 h; exact False.elim h
  | succ f ih =>
    intro v1 v2 v3 g4 g5 g6 g7 σ Q K55 hK55 h
    rw [w_X9_year_26] at h
    refine ds_blk (ls2 := [some (.ref 0), some (.int v1), some (.int v2), some (.int v3), g4, g5, g6, g7]) (st2 := [.int (36 : Int32), .int v3]) (σ2 := σ) ok_X9_year 15 2 26 29 [] rfl rfl rfl rfl trivial ?_
    refine ds_ic_ge (show decode mt_X9_year.2.1 29 = .ok (.if_icmp .ge 26, 3) from ds_dec (i := (29, .if_icmp .ge 26, 3, 0, 0, 0, .int 0)) ok_X9_year 17 rfl) (t := 55) (by decide) (fun hc => ?_) (fun hc => ?_)
    · replace h := h.1 hc
      exact hK55 v1 v2 _ _ _ _ _ σ h
    · replace h := h.2 hc
      obtain ⟨o1, o2, h⟩ := h
      refine ds_blk (ls2 := [some (.ref 0), some (.int v1), some (.int v2), some (.int (v3 + (1 : Int32))), g4, g5, g6, g7]) (st2 := []) (σ2 := (ds_wi σ 18 v3.toNatClampNeg (σ.1 7 ((((36 : Int32) * v1) + v3).toNatClampNeg)))) ok_X9_year 18 13 32 52 [ds_k Ym 0 9, ds_k Ym 0 9, ds_k Ym 7 10, vp_in (((36 : Int32) * v1) + v3) 108, ds_k Ym 18 10, vp_in v3 36] rfl rfl rfl rfl ⟨⟨by decide, rfl⟩, ⟨by decide, rfl⟩, ⟨by decide, rfl⟩, o1, ⟨by decide, rfl⟩, o2, trivial⟩ ?_
      refine ds_goto (show decode mt_X9_year.2.1 52 = .ok (.goto (-26), 3) from ds_dec (i := (52, .goto (-26), 3, 0, 0, 0, .int 0)) ok_X9_year 31 rfl) (t := 26) (by decide) ?_
      exact ih v1 v2 (v3 + (1 : Int32)) _ _ _ _ (ds_wi σ 18 v3.toNatClampNeg (σ.1 7 ((((36 : Int32) * v1) + v3).toNatClampNeg))) Q K55 hK55 h
def w_X9_year_103 : Nat → (v1 : Int32) → (v2 : Int32) → (v3 : Int32) → (v4 : Int32) → (v5 : Int32) → (σ : ds_S) → (Q : Option Value → ds_S → Prop) → (K175 : Int32 → Int32 → Int32 → Int32 → ds_S → Prop) → Prop
  | 0, _, _, _, _, _, _, _, _ => False
  | f + 1, v1, v2, v3, v4, v5, σ, Q, K175 => (((((36 : Int32) * v1) + (36 : Int32)) ≤ v5 → K175 v1 v2 v3 v4 σ) ∧ (¬ (((36 : Int32) * v1) + (36 : Int32)) ≤ v5 → vp_in v5 108 ∧ vp_in v5 108 ∧ (((lg_cmp ((σ.1 7 v5.toNatClampNeg).toInt64 + ((((σ.1 7 v5.toNatClampNeg).toInt64 * v2.toInt64) + (99 : Int64)) / (100 : Int64))) (1000000 : Int64)) ≤ 0 → vp_in v5 108 ∧ w_X9_year_103 f v1 v2 v3 v4 (v5 + (1 : Int32)) (ds_wi σ 7 v5.toNatClampNeg (((σ.1 7 v5.toNatClampNeg).toInt64 + ((((σ.1 7 v5.toNatClampNeg).toInt64 * v2.toInt64) + (99 : Int64)) / (100 : Int64))).toInt32)) Q K175) ∧ (¬ (lg_cmp ((σ.1 7 v5.toNatClampNeg).toInt64 + ((((σ.1 7 v5.toNatClampNeg).toInt64 * v2.toInt64) + (99 : Int64)) / (100 : Int64))) (1000000 : Int64)) ≤ 0 → vp_in v5 108 ∧ w_X9_year_103 f v1 v2 v3 v4 (v5 + (1 : Int32)) (ds_wi σ 7 v5.toNatClampNeg (1000000 : Int32)) Q K175))))
theorem x_X9_year_103 : ∀ (f : Nat) (v1 : Int32) (v2 : Int32) (v3 : Int32) (v4 : Int32) (v5 : Int32) (g6 : Option Value) (g7 : Option Value) (σ : ds_S) (Q : Option Value → ds_S → Prop) (K175 : Int32 → Int32 → Int32 → Int32 → ds_S → Prop) (hK175 : ∀ (v1 : Int32) (v2 : Int32) (v3 : Int32) (v4 : Int32) (g5 : Option Value) (g6 : Option Value) (g7 : Option Value) (σ2 : ds_S), K175 v1 v2 v3 v4 σ2 → ds_X mt_X9_year Ym 175 [some (.ref 0), some (.int v1), some (.int v2), some (.int v3), some (.int v4), g5, g6, g7] [] σ2 Q), w_X9_year_103 f v1 v2 v3 v4 v5 σ Q K175 → ds_X mt_X9_year Ym 103 [some (.ref 0), some (.int v1), some (.int v2), some (.int v3), some (.int v4), some (.int v5), g6, g7] [] σ Q := by
  intro f
  induction f with
  | zero => intro v1 v2 v3 v4 v5 g6 g7 σ Q K175 hK175 h; exact False.elim h
  | succ f ih =>
    intro v1 v2 v3 v4 v5 g6 g7 σ Q K175 hK175 h
    rw [w_X9_year_103] at h
    refine ds_blk (ls2 := [some (.ref 0), some (.int v1), some (.int v2), some (.int v3), some (.int v4), some (.int v5), g6, g7]) (st2 := [.int (((36 : Int32) * v1) + (36 : Int32)), .int v5]) (σ2 := σ) ok_X9_year 58 6 103 112 [] rfl rfl rfl rfl trivial ?_
    refine ds_ic_ge (show decode mt_X9_year.2.1 112 = .ok (.if_icmp .ge 63, 3) from ds_dec (i := (112, .if_icmp .ge 63, 3, 0, 0, 0, .int 0)) ok_X9_year 64 rfl) (t := 175) (by decide) (fun hc => ?_) (fun hc => ?_)
    · replace h := h.1 hc
      exact hK175 v1 v2 v3 v4 _ _ _ σ h
    · replace h := h.2 hc
      obtain ⟨o1, o2, h⟩ := h
      refine ds_blk (ls2 := [some (.ref 0), some (.int v1), some (.int v2), some (.int v3), some (.int v4), some (.int v5), some (.long ((σ.1 7 v5.toNatClampNeg).toInt64 + ((((σ.1 7 v5.toNatClampNeg).toInt64 * v2.toInt64) + (99 : Int64)) / (100 : Int64)))), none]) (st2 := [.int (lg_cmp ((σ.1 7 v5.toNatClampNeg).toInt64 + ((((σ.1 7 v5.toNatClampNeg).toInt64 * v2.toInt64) + (99 : Int64)) / (100 : Int64))) (1000000 : Int64)), .int v5, .ref 7]) (σ2 := σ) ok_X9_year 65 25 115 157 [ds_k Ym 0 9, ds_k Ym 7 10, vp_in v5 108, ds_k Ym 0 9, ds_k Ym 7 10, vp_in v5 108, ¬ (100 : Int64) = 0, ds_k Ym 0 9] rfl rfl rfl rfl ⟨⟨by decide, rfl⟩, ⟨by decide, rfl⟩, o1, ⟨by decide, rfl⟩, ⟨by decide, rfl⟩, o2, (by decide), ⟨by decide, rfl⟩, trivial⟩ ?_
      refine ds_if_le (show decode mt_X9_year.2.1 157 = .ok (.ifCond .le 8, 3) from ds_dec (i := (157, .ifCond .le 8, 3, 0, 0, 0, .int 0)) ok_X9_year 90 rfl) (t := 165) (by decide) (fun hc => ?_) (fun hc => ?_)
      · replace h := h.1 hc
        obtain ⟨o3, h⟩ := h
        refine ds_blk (ls2 := [some (.ref 0), some (.int v1), some (.int v2), some (.int v3), some (.int v4), some (.int (v5 + (1 : Int32))), some (.long ((σ.1 7 v5.toNatClampNeg).toInt64 + ((((σ.1 7 v5.toNatClampNeg).toInt64 * v2.toInt64) + (99 : Int64)) / (100 : Int64)))), none]) (st2 := []) (σ2 := (ds_wi σ 7 v5.toNatClampNeg (((σ.1 7 v5.toNatClampNeg).toInt64 + ((((σ.1 7 v5.toNatClampNeg).toInt64 * v2.toInt64) + (99 : Int64)) / (100 : Int64))).toInt32))) ok_X9_year 93 4 165 172 [ds_k Ym 7 10, vp_in v5 108] rfl rfl rfl rfl ⟨⟨by decide, rfl⟩, o3, trivial⟩ ?_
        refine ds_goto (show decode mt_X9_year.2.1 172 = .ok (.goto (-69), 3) from ds_dec (i := (172, .goto (-69), 3, 0, 0, 0, .int 0)) ok_X9_year 97 rfl) (t := 103) (by decide) ?_
        exact ih v1 v2 v3 v4 (v5 + (1 : Int32)) _ _ (ds_wi σ 7 v5.toNatClampNeg (((σ.1 7 v5.toNatClampNeg).toInt64 + ((((σ.1 7 v5.toNatClampNeg).toInt64 * v2.toInt64) + (99 : Int64)) / (100 : Int64))).toInt32)) Q K175 hK175 h
      · replace h := h.2 hc
        refine ds_blk (ls2 := [some (.ref 0), some (.int v1), some (.int v2), some (.int v3), some (.int v4), some (.int v5), some (.long ((σ.1 7 v5.toNatClampNeg).toInt64 + ((((σ.1 7 v5.toNatClampNeg).toInt64 * v2.toInt64) + (99 : Int64)) / (100 : Int64)))), none]) (st2 := [.int (1000000 : Int32), .int v5, .ref 7]) (σ2 := σ) ok_X9_year 91 1 160 162 [] rfl rfl rfl rfl trivial ?_
        refine ds_goto (show decode mt_X9_year.2.1 162 = .ok (.goto 6, 3) from ds_dec (i := (162, .goto 6, 3, 0, 0, 0, .int 0)) ok_X9_year 92 rfl) (t := 168) (by decide) ?_
        obtain ⟨o4, h⟩ := h
        refine ds_blk (ls2 := [some (.ref 0), some (.int v1), some (.int v2), some (.int v3), some (.int v4), some (.int (v5 + (1 : Int32))), some (.long ((σ.1 7 v5.toNatClampNeg).toInt64 + ((((σ.1 7 v5.toNatClampNeg).toInt64 * v2.toInt64) + (99 : Int64)) / (100 : Int64)))), none]) (st2 := []) (σ2 := (ds_wi σ 7 v5.toNatClampNeg (1000000 : Int32))) ok_X9_year 95 2 168 172 [ds_k Ym 7 10, vp_in v5 108] rfl rfl rfl rfl ⟨⟨by decide, rfl⟩, o4, trivial⟩ ?_
        refine ds_goto (show decode mt_X9_year.2.1 172 = .ok (.goto (-69), 3) from ds_dec (i := (172, .goto (-69), 3, 0, 0, 0, .int 0)) ok_X9_year 97 rfl) (t := 103) (by decide) ?_
        exact ih v1 v2 v3 v4 (v5 + (1 : Int32)) _ _ (ds_wi σ 7 v5.toNatClampNeg (1000000 : Int32)) Q K175 hK175 h
def w_X9_year_96 (v1 : Int32) (v2 : Int32) (v4 : Int32) (t0 : Int32) (σ : ds_S) (Q : Option Value → ds_S → Prop) (K61 : Int32 → Int32 → Int32 → Int32 → ds_S → Prop) : Prop := ∃ n, w_X9_year_103 n v1 v2 t0 v4 ((36 : Int32) * v1) σ Q (fun v1_1 v2_1 v3_1 v4_1 σ1 => K61 v1_1 v2_1 v3_1 (v4_1 + (1 : Int32)) σ1)
theorem x_X9_year_96 (v1 : Int32) (v2 : Int32) (v4 : Int32) (t0 : Int32) (g3 : Option Value) (g5 : Option Value) (g6 : Option Value) (g7 : Option Value) (σ : ds_S) (Q : Option Value → ds_S → Prop) (K61 : Int32 → Int32 → Int32 → Int32 → ds_S → Prop) (hK61 : ∀ (v1 : Int32) (v2 : Int32) (v3 : Int32) (v4 : Int32) (g5 : Option Value) (g6 : Option Value) (g7 : Option Value) (σ2 : ds_S), K61 v1 v2 v3 v4 σ2 → ds_X mt_X9_year Ym 61 [some (.ref 0), some (.int v1), some (.int v2), some (.int v3), some (.int v4), g5, g6, g7] [] σ2 Q) (h : w_X9_year_96 v1 v2 v4 t0 σ Q K61) : ds_X mt_X9_year Ym 96 [some (.ref 0), some (.int v1), some (.int v2), g3, some (.int v4), g5, g6, g7] [.int t0] σ Q := by
  unfold w_X9_year_96 at h
  refine ds_blk (ls2 := [some (.ref 0), some (.int v1), some (.int v2), some (.int t0), some (.int v4), some (.int ((36 : Int32) * v1)), g6, g7]) (st2 := []) (σ2 := σ) ok_X9_year 53 5 96 103 [] rfl rfl rfl rfl trivial ?_
  obtain ⟨n, h⟩ := h
  refine x_X9_year_103 n v1 v2 t0 v4 ((36 : Int32) * v1) _ _ σ Q _ ?_ h
  · intro v1_1 v2_1 v3_1 v4_1 g5_1 g6_1 g7_1 σ1 h
    refine ds_blk (ls2 := [some (.ref 0), some (.int v1_1), some (.int v2_1), some (.int v3_1), some (.int (v4_1 + (1 : Int32))), g5_1, g6_1, g7_1]) (st2 := []) (σ2 := σ1) ok_X9_year 98 1 175 178 [] rfl rfl rfl rfl trivial ?_
    refine ds_goto (show decode mt_X9_year.2.1 178 = .ok (.goto (-117), 3) from ds_dec (i := (178, .goto (-117), 3, 0, 0, 0, .int 0)) ok_X9_year 99 rfl) (t := 61) (by decide) ?_
    exact hK61 v1_1 v2_1 v3_1 (v4_1 + (1 : Int32)) _ _ _ σ1 h
def w_X9_year_61 : Nat → (v1 : Int32) → (v2 : Int32) → (v3 : Int32) → (v4 : Int32) → (σ : ds_S) → (Q : Option Value → ds_S → Prop) → (K181 : Int32 → Int32 → ds_S → Prop) → Prop
  | 0, _, _, _, _, _, _, _ => False
  | f + 1, v1, v2, v3, v4, σ, Q, K181 => (((100 : Int32) ≤ v4 → K181 v1 v3 σ) ∧ (¬ (100 : Int32) ≤ v4 → ((0 ≤ v3 → K181 v1 v3 σ) ∧ (¬ 0 ≤ v3 → ds_EV mt_X9_findWorst Ym [.ref 0, .int v1] σ (fun σ1 => (((lg_cmp (σ1.2 0 19) (σ1.2 0 20)) ≤ 0 → w_X9_year_96 v1 v2 v4 (-6 : Int32) σ1 Q (fun v1_2 v2_2 v3_2 v4_2 σ2 => w_X9_year_61 f v1_2 v2_2 v3_2 v4_2 σ2 Q K181)) ∧ (¬ (lg_cmp (σ1.2 0 19) (σ1.2 0 20)) ≤ 0 → w_X9_year_96 v1 v2 v4 v4 σ1 Q (fun v1_3 v2_3 v3_3 v4_3 σ3 => w_X9_year_61 f v1_3 v2_3 v3_3 v4_3 σ3 Q K181))))))))
theorem x_X9_year_61 : ∀ (f : Nat) (v1 : Int32) (v2 : Int32) (v3 : Int32) (v4 : Int32) (g5 : Option Value) (g6 : Option Value) (g7 : Option Value) (σ : ds_S) (Q : Option Value → ds_S → Prop) (K181 : Int32 → Int32 → ds_S → Prop) (hK181 : ∀ (v1 : Int32) (v3 : Int32) (g2 : Option Value) (g4 : Option Value) (g5 : Option Value) (g6 : Option Value) (g7 : Option Value) (σ2 : ds_S), K181 v1 v3 σ2 → ds_X mt_X9_year Ym 181 [some (.ref 0), some (.int v1), g2, some (.int v3), g4, g5, g6, g7] [] σ2 Q), w_X9_year_61 f v1 v2 v3 v4 σ Q K181 → ds_X mt_X9_year Ym 61 [some (.ref 0), some (.int v1), some (.int v2), some (.int v3), some (.int v4), g5, g6, g7] [] σ Q := by
  intro f
  induction f with
  | zero => intro v1 v2 v3 v4 g5 g6 g7 σ Q K181 hK181 h; exact False.elim h
  | succ f ih =>
    intro v1 v2 v3 v4 g5 g6 g7 σ Q K181 hK181 h
    rw [w_X9_year_61] at h
    refine ds_blk (ls2 := [some (.ref 0), some (.int v1), some (.int v2), some (.int v3), some (.int v4), g5, g6, g7]) (st2 := [.int (100 : Int32), .int v4]) (σ2 := σ) ok_X9_year 36 2 61 65 [] rfl rfl rfl rfl trivial ?_
    refine ds_ic_ge (show decode mt_X9_year.2.1 65 = .ok (.if_icmp .ge 116, 3) from ds_dec (i := (65, .if_icmp .ge 116, 3, 0, 0, 0, .int 0)) ok_X9_year 38 rfl) (t := 181) (by decide) (fun hc => ?_) (fun hc => ?_)
    · replace h := h.1 hc
      exact hK181 v1 v3 _ _ _ _ _ σ h
    · replace h := h.2 hc
      refine ds_blk (ls2 := [some (.ref 0), some (.int v1), some (.int v2), some (.int v3), some (.int v4), g5, g6, g7]) (st2 := [.int v3]) (σ2 := σ) ok_X9_year 39 1 68 69 [] rfl rfl rfl rfl trivial ?_
      refine ds_if_ge (show decode mt_X9_year.2.1 69 = .ok (.ifCond .ge 112, 3) from ds_dec (i := (69, .ifCond .ge 112, 3, 0, 0, 0, .int 0)) ok_X9_year 40 rfl) (t := 181) (by decide) (fun hc => ?_) (fun hc => ?_)
      · replace h := h.1 hc
        exact hK181 v1 v3 _ _ _ _ _ σ h
      · replace h := h.2 hc
        refine ds_blk (ls2 := [some (.ref 0), some (.int v1), some (.int v2), some (.int v3), some (.int v4), g5, g6, g7]) (st2 := [.int v1, .ref 0]) (σ2 := σ) ok_X9_year 41 2 72 74 [] rfl rfl rfl rfl trivial ?_
        refine ds_callV (z := mt_X9_findWorst) (b := 0) (as := [.int v1]) (rest := []) (show decode mt_X9_year.2.1 74 = .ok (.invokevirtual 167, 3) from ds_dec (i := (74, .invokevirtual 167, 3, 0, 0, 938, .int 0)) ok_X9_year 43 rfl) (ds_E.mono h (fun r σ1 hr => ?_)) ⟨zw_X9_findWorst.1, zw_X9_findWorst.2.1, zw_X9_findWorst.2.2, by decide, by decide⟩ (ds_wb_T (p := 938) (by decide +kernel)) zi_X9_findWorst zs_X9_findWorst (by decide) rfl ⟨_, rfl, rfl⟩ (Nat.le_of_ble_eq_true rfl)
        obtain ⟨rfl, h⟩ := hr
        show ds_X mt_X9_year Ym 77 [some (.ref 0), some (.int v1), some (.int v2), some (.int v3), some (.int v4), g5, g6, g7] [] σ1 Q
        refine ds_blk (ls2 := [some (.ref 0), some (.int v1), some (.int v2), some (.int v3), some (.int v4), g5, g6, g7]) (st2 := [.int (lg_cmp (σ1.2 0 19) (σ1.2 0 20))]) (σ2 := σ1) ok_X9_year 44 5 77 86 [ds_k Ym 0 9, ds_k Ym 0 9] rfl rfl rfl rfl ⟨⟨by decide, rfl⟩, ⟨by decide, rfl⟩, trivial⟩ ?_
        refine ds_if_le (show decode mt_X9_year.2.1 86 = .ok (.ifCond .le 8, 3) from ds_dec (i := (86, .ifCond .le 8, 3, 0, 0, 0, .int 0)) ok_X9_year 49 rfl) (t := 94) (by decide) (fun hc => ?_) (fun hc => ?_)
        · replace h := h.1 hc
          refine ds_blk (ls2 := [some (.ref 0), some (.int v1), some (.int v2), some (.int v3), some (.int v4), g5, g6, g7]) (st2 := [.int (-6 : Int32)]) (σ2 := σ1) ok_X9_year 52 1 94 96 [] rfl rfl rfl rfl trivial ?_
          refine x_X9_year_96 v1 v2 v4 (-6 : Int32) _ _ _ _ σ1 Q _ ?_ h
          · intro v1_2 v2_2 v3_2 v4_2 g5_2 g6_2 g7_2 σ2 h
            exact ih v1_2 v2_2 v3_2 v4_2 _ _ _ σ2 Q K181 hK181 h
        · replace h := h.2 hc
          refine ds_blk (ls2 := [some (.ref 0), some (.int v1), some (.int v2), some (.int v3), some (.int v4), g5, g6, g7]) (st2 := [.int v4]) (σ2 := σ1) ok_X9_year 50 1 89 91 [] rfl rfl rfl rfl trivial ?_
          refine ds_goto (show decode mt_X9_year.2.1 91 = .ok (.goto 5, 3) from ds_dec (i := (91, .goto 5, 3, 0, 0, 0, .int 0)) ok_X9_year 51 rfl) (t := 96) (by decide) ?_
          refine x_X9_year_96 v1 v2 v4 v4 _ _ _ _ σ1 Q _ ?_ h
          · intro v1_3 v2_3 v3_3 v4_3 g5_3 g6_3 g7_3 σ3 h
            exact ih v1_3 v2_3 v3_3 v4_3 _ _ _ σ3 Q K181 hK181 h
def w_X9_year_184 : Nat → (v1 : Int32) → (v3 : Int32) → (v4 : Int32) → (σ : ds_S) → (Q : Option Value → ds_S → Prop) → Prop
  | 0, _, _, _, _, _ => False
  | f + 1, v1, v3, v4, σ, Q => (((36 : Int32) ≤ v4 → Q (some (.int v3)) σ) ∧ (¬ (36 : Int32) ≤ v4 → vp_in v4 36 ∧ vp_in (((36 : Int32) * v1) + v4) 108 ∧ w_X9_year_184 f v1 v3 (v4 + (1 : Int32)) (ds_wi σ 7 ((((36 : Int32) * v1) + v4).toNatClampNeg) (σ.1 18 v4.toNatClampNeg)) Q))
theorem x_X9_year_184 : ∀ (f : Nat) (v1 : Int32) (v3 : Int32) (v4 : Int32) (g2 : Option Value) (g5 : Option Value) (g6 : Option Value) (g7 : Option Value) (σ : ds_S) (Q : Option Value → ds_S → Prop), w_X9_year_184 f v1 v3 v4 σ Q → ds_X mt_X9_year Ym 184 [some (.ref 0), some (.int v1), g2, some (.int v3), some (.int v4), g5, g6, g7] [] σ Q := by
  intro f
  induction f with
  | zero => intro v1 v3 v4 g2 g5 g6 g7 σ Q h; exact False.elim h
  | succ f ih =>
    intro v1 v3 v4 g2 g5 g6 g7 σ Q h
    rw [w_X9_year_184] at h
    refine ds_blk (ls2 := [some (.ref 0), some (.int v1), g2, some (.int v3), some (.int v4), g5, g6, g7]) (st2 := [.int (36 : Int32), .int v4]) (σ2 := σ) ok_X9_year 102 2 184 188 [] rfl rfl rfl rfl trivial ?_
    refine ds_ic_ge (show decode mt_X9_year.2.1 188 = .ok (.if_icmp .ge 28, 3) from ds_dec (i := (188, .if_icmp .ge 28, 3, 0, 0, 0, .int 0)) ok_X9_year 104 rfl) (t := 216) (by decide) (fun hc => ?_) (fun hc => ?_)
    · replace h := h.1 hc
      refine ds_blk (ls2 := [some (.ref 0), some (.int v1), g2, some (.int v3), some (.int v4), g5, g6, g7]) (st2 := [.int v3]) (σ2 := σ) ok_X9_year 119 1 216 217 [] rfl rfl rfl rfl trivial ?_
      exact ds_iret (show decode mt_X9_year.2.1 217 = .ok (.ireturn, 1) from ds_dec (i := (217, .ireturn, 1, 0, 0, 0, .int 0)) ok_X9_year 120 rfl) rfl h
    · replace h := h.2 hc
      obtain ⟨o1, o2, h⟩ := h
      refine ds_blk (ls2 := [some (.ref 0), some (.int v1), g2, some (.int v3), some (.int (v4 + (1 : Int32))), g5, g6, g7]) (st2 := []) (σ2 := (ds_wi σ 7 ((((36 : Int32) * v1) + v4).toNatClampNeg) (σ.1 18 v4.toNatClampNeg))) ok_X9_year 105 13 191 213 [ds_k Ym 0 9, ds_k Ym 0 9, ds_k Ym 18 10, vp_in v4 36, ds_k Ym 7 10, vp_in (((36 : Int32) * v1) + v4) 108] rfl rfl rfl rfl ⟨⟨by decide, rfl⟩, ⟨by decide, rfl⟩, ⟨by decide, rfl⟩, o1, ⟨by decide, rfl⟩, o2, trivial⟩ ?_
      refine ds_goto (show decode mt_X9_year.2.1 213 = .ok (.goto (-29), 3) from ds_dec (i := (213, .goto (-29), 3, 0, 0, 0, .int 0)) ok_X9_year 118 rfl) (t := 184) (by decide) ?_
      exact ih v1 v3 (v4 + (1 : Int32)) _ _ _ _ (ds_wi σ 7 ((((36 : Int32) * v1) + v4).toNatClampNeg) (σ.1 18 v4.toNatClampNeg)) Q h
def w_X9_year (a1 : Int32) (a2 : Int32) (σ : ds_S) (Q : Option Value → ds_S → Prop) : Prop := ((¬ (q_bx a1 3) = 0 → ((¬ (q_in a2.toInt64 (1 : Int64) (100 : Int64)) = 0 → ∃ n, w_X9_year_26 n a1 a2 (0 : Int32) σ Q (fun v1_3 v2_3 σ3 => ∃ n, w_X9_year_61 n v1_3 v2_3 (-6 : Int32) (0 : Int32) σ3 Q (fun v1_4 v3_4 σ4 => ∃ n, w_X9_year_184 n v1_4 v3_4 (0 : Int32) σ4 Q))) ∧ ((q_in a2.toInt64 (1 : Int64) (100 : Int64)) = 0 → Q (some (.int (-2 : Int32))) σ))) ∧ ((q_bx a1 3) = 0 → Q (some (.int (-1 : Int32))) σ))
theorem e_X9_year (a1 : Int32) (a2 : Int32) (σ : ds_S) (Q : Option Value → ds_S → Prop) (h : w_X9_year a1 a2 σ Q) : ds_E mt_X9_year Ym [.ref 0, .int a1, .int a2] σ Q := by
  refine ds_enter (by decide) (Nat.le_of_ble_eq_true rfl) ?_
  show ds_X mt_X9_year Ym 0 [some (.ref 0), some (.int a1), some (.int a2), none, none, none, none, none] [] σ Q
  unfold w_X9_year at h
  refine ds_blk (ls2 := [some (.ref 0), some (.int a1), some (.int a2), none, none, none, none, none]) (st2 := [.int a1]) (σ2 := σ) ok_X9_year 0 1 0 1 [] rfl rfl rfl rfl trivial ?_
  refine ds_callS (z := mt_X9_isTable) (as := [.int a1]) (rest := []) (show decode mt_X9_year.2.1 1 = .ok (.invokestatic 99, 3) from ds_dec (i := (1, .invokestatic 99, 3, 0, 0, 869, .int 0)) ok_X9_year 1 rfl) (ds_E.mono (sp_X9_isTable a1 σ ) (fun r σ1 hr => ?_)) ⟨zw_X9_isTable.1, zw_X9_isTable.2.1, zw_X9_isTable.2.2, by decide, by decide⟩ (ds_wb_T (p := 869) (by decide +kernel)) zt_X9_isTable (Nat.le_of_ble_eq_true rfl)
  obtain ⟨x9, rfl, e8, e9⟩ := hr
  rw [e8, e9]
  show ds_X mt_X9_year Ym 4 [some (.ref 0), some (.int a1), some (.int a2), none, none, none, none, none] [.int (q_bx a1 3)] σ Q
  refine ds_if_ne (show decode mt_X9_year.2.1 4 = .ok (.ifCond .ne 5, 3) from ds_dec (i := (4, .ifCond .ne 5, 3, 0, 0, 0, .int 0)) ok_X9_year 2 rfl) (t := 9) (by decide) (fun hc => ?_) (fun hc => ?_)
  · replace h := h.1 hc
    refine ds_blk (ls2 := [some (.ref 0), some (.int a1), some (.int a2), none, none, none, none, none]) (st2 := [.long (100 : Int64), .long (1 : Int64), .long a2.toInt64]) (σ2 := σ) ok_X9_year 5 4 9 15 [] rfl rfl rfl rfl trivial ?_
    refine ds_callS (z := mt_X9_in) (as := [.long a2.toInt64, .long (1 : Int64), .long (100 : Int64)]) (rest := []) (show decode mt_X9_year.2.1 15 = .ok (.invokestatic 73, 3) from ds_dec (i := (15, .invokestatic 73, 3, 0, 0, 836, .int 0)) ok_X9_year 9 rfl) (ds_E.mono (sp_X9_in a2.toInt64 (1 : Int64) (100 : Int64) σ ) (fun r σ2 hr => ?_)) ⟨zw_X9_in.1, zw_X9_in.2.1, zw_X9_in.2.2, by decide, by decide⟩ (ds_wb_T (p := 836) (by decide +kernel)) zt_X9_in (Nat.le_of_ble_eq_true rfl)
    obtain ⟨x9, rfl, e8, e9⟩ := hr
    rw [e8, e9]
    show ds_X mt_X9_year Ym 18 [some (.ref 0), some (.int a1), some (.int a2), none, none, none, none, none] [.int (q_in a2.toInt64 (1 : Int64) (100 : Int64))] σ Q
    refine ds_if_ne (show decode mt_X9_year.2.1 18 = .ok (.ifCond .ne 6, 3) from ds_dec (i := (18, .ifCond .ne 6, 3, 0, 0, 0, .int 0)) ok_X9_year 10 rfl) (t := 24) (by decide) (fun hc => ?_) (fun hc => ?_)
    · replace h := h.1 hc
      refine ds_blk (ls2 := [some (.ref 0), some (.int a1), some (.int a2), some (.int (0 : Int32)), none, none, none, none]) (st2 := []) (σ2 := σ) ok_X9_year 13 2 24 26 [] rfl rfl rfl rfl trivial ?_
      obtain ⟨n, h⟩ := h
      refine x_X9_year_26 n a1 a2 (0 : Int32) _ _ _ _ σ Q _ ?_ h
      · intro v1_3 v2_3 g3_3 g4_3 g5_3 g6_3 g7_3 σ3 h
        refine ds_blk (ls2 := [some (.ref 0), some (.int v1_3), some (.int v2_3), some (.int (-6 : Int32)), some (.int (0 : Int32)), g5_3, g6_3, g7_3]) (st2 := []) (σ2 := σ3) ok_X9_year 32 4 55 61 [] rfl rfl rfl rfl trivial ?_
        obtain ⟨n, h⟩ := h
        refine x_X9_year_61 n v1_3 v2_3 (-6 : Int32) (0 : Int32) _ _ _ σ3 Q _ ?_ h
        · intro v1_4 v3_4 g2_4 g4_4 g5_4 g6_4 g7_4 σ4 h
          refine ds_blk (ls2 := [some (.ref 0), some (.int v1_4), g2_4, some (.int v3_4), some (.int (0 : Int32)), g5_4, g6_4, g7_4]) (st2 := []) (σ2 := σ4) ok_X9_year 100 2 181 184 [] rfl rfl rfl rfl trivial ?_
          obtain ⟨n, h⟩ := h
          refine x_X9_year_184 n v1_4 v3_4 (0 : Int32) _ _ _ _ σ4 Q h
    · replace h := h.2 hc
      refine ds_blk (ls2 := [some (.ref 0), some (.int a1), some (.int a2), none, none, none, none, none]) (st2 := [.int (-2 : Int32)]) (σ2 := σ) ok_X9_year 11 1 21 23 [] rfl rfl rfl rfl trivial ?_
      exact ds_iret (show decode mt_X9_year.2.1 23 = .ok (.ireturn, 1) from ds_dec (i := (23, .ireturn, 1, 0, 0, 0, .int 0)) ok_X9_year 12 rfl) rfl h
  · replace h := h.2 hc
    refine ds_blk (ls2 := [some (.ref 0), some (.int a1), some (.int a2), none, none, none, none, none]) (st2 := [.int (-1 : Int32)]) (σ2 := σ) ok_X9_year 3 1 7 8 [] rfl rfl rfl rfl trivial ?_
    exact ds_iret (show decode mt_X9_year.2.1 8 = .ok (.ireturn, 1) from ds_dec (i := (8, .ireturn, 1, 0, 0, 0, .int 0)) ok_X9_year 4 rfl) rfl h
def w_X9_told_48 : Nat → (v2 : Int32) → (v3 : Int32) → (σ : ds_S) → (Q : Option Value → ds_S → Prop) → Prop
  | 0, _, _, _, _ => False
  | f + 1, v2, v3, σ, Q => (((σ.1 0 7) ≤ v3 → Q (some (.int v2)) σ) ∧ (¬ (σ.1 0 7) ≤ v3 → vp_in v3 10 ∧ (((σ.1 5 v3.toNatClampNeg) = 0 → w_X9_told_48 f (v2 ||| (0 : Int32)) (v3 + (1 : Int32)) σ Q) ∧ (¬ (σ.1 5 v3.toNatClampNeg) = 0 → w_X9_told_48 f (v2 ||| ((1 : Int32) <<< (v3 &&& 31))) (v3 + (1 : Int32)) σ Q))))
theorem x_X9_told_48 : ∀ (f : Nat) (v2 : Int32) (v3 : Int32) (g1 : Option Value) (σ : ds_S) (Q : Option Value → ds_S → Prop), w_X9_told_48 f v2 v3 σ Q → ds_X mt_X9_told Ym 48 [some (.ref 0), g1, some (.int v2), some (.int v3)] [] σ Q := by
  intro f
  induction f with
  | zero => intro v2 v3 g1 σ Q h; exact False.elim h
  | succ f ih =>
    intro v2 v3 g1 σ Q h
    rw [w_X9_told_48] at h
    refine ds_blk (ls2 := [some (.ref 0), g1, some (.int v2), some (.int v3)]) (st2 := [.int (σ.1 0 7), .int v3]) (σ2 := σ) ok_X9_told 12 3 48 53 [ds_k Ym 0 9] rfl rfl rfl rfl ⟨⟨by decide, rfl⟩, trivial⟩ ?_
    refine ds_ic_ge (show decode mt_X9_told.2.1 53 = .ok (.if_icmp .ge 28, 3) from ds_dec (i := (53, .if_icmp .ge 28, 3, 0, 0, 0, .int 0)) ok_X9_told 15 rfl) (t := 81) (by decide) (fun hc => ?_) (fun hc => ?_)
    · replace h := h.1 hc
      refine ds_blk (ls2 := [some (.ref 0), g1, some (.int v2), some (.int v3)]) (st2 := [.int v2]) (σ2 := σ) ok_X9_told 31 1 81 82 [] rfl rfl rfl rfl trivial ?_
      exact ds_iret (show decode mt_X9_told.2.1 82 = .ok (.ireturn, 1) from ds_dec (i := (82, .ireturn, 1, 0, 0, 0, .int 0)) ok_X9_told 32 rfl) rfl h
    · replace h := h.2 hc
      obtain ⟨o1, h⟩ := h
      refine ds_blk (ls2 := [some (.ref 0), g1, some (.int v2), some (.int v3)]) (st2 := [.int (σ.1 5 v3.toNatClampNeg), .int v2]) (σ2 := σ) ok_X9_told 16 5 56 63 [ds_k Ym 0 9, ds_k Ym 5 12, vp_in v3 10] rfl rfl rfl rfl ⟨⟨by decide, rfl⟩, ⟨by decide, rfl⟩, o1, trivial⟩ ?_
      refine ds_if_eq (show decode mt_X9_told.2.1 63 = .ok (.ifCond .eq 9, 3) from ds_dec (i := (63, .ifCond .eq 9, 3, 0, 0, 0, .int 0)) ok_X9_told 21 rfl) (t := 72) (by decide) (fun hc => ?_) (fun hc => ?_)
      · replace h := h.1 hc
        refine ds_blk (ls2 := [some (.ref 0), (ds_nl g1), some (.int (v2 ||| (0 : Int32))), some (.int (v3 + (1 : Int32)))]) (st2 := []) (σ2 := σ) ok_X9_told 26 4 72 78 [] rfl rfl rfl rfl trivial ?_
        refine ds_goto (show decode mt_X9_told.2.1 78 = .ok (.goto (-30), 3) from ds_dec (i := (78, .goto (-30), 3, 0, 0, 0, .int 0)) ok_X9_told 30 rfl) (t := 48) (by decide) ?_
        exact ih (v2 ||| (0 : Int32)) (v3 + (1 : Int32)) _ σ Q h
      · replace h := h.2 hc
        refine ds_blk (ls2 := [some (.ref 0), g1, some (.int v2), some (.int v3)]) (st2 := [.int ((1 : Int32) <<< (v3 &&& 31)), .int v2]) (σ2 := σ) ok_X9_told 22 3 66 69 [] rfl rfl rfl rfl trivial ?_
        refine ds_goto (show decode mt_X9_told.2.1 69 = .ok (.goto 4, 3) from ds_dec (i := (69, .goto 4, 3, 0, 0, 0, .int 0)) ok_X9_told 25 rfl) (t := 73) (by decide) ?_
        refine ds_blk (ls2 := [some (.ref 0), (ds_nl g1), some (.int (v2 ||| ((1 : Int32) <<< (v3 &&& 31)))), some (.int (v3 + (1 : Int32)))]) (st2 := []) (σ2 := σ) ok_X9_told 27 3 73 78 [] rfl rfl rfl rfl trivial ?_
        refine ds_goto (show decode mt_X9_told.2.1 78 = .ok (.goto (-30), 3) from ds_dec (i := (78, .goto (-30), 3, 0, 0, 0, .int 0)) ok_X9_told 30 rfl) (t := 48) (by decide) ?_
        exact ih (v2 ||| ((1 : Int32) <<< (v3 &&& 31))) (v3 + (1 : Int32)) _ σ Q h
def w_X9_told_85 : Nat → (v2 : Int32) → (v3 : Int32) → (σ : ds_S) → (Q : Option Value → ds_S → Prop) → Prop
  | 0, _, _, _, _ => False
  | f + 1, v2, v3, σ, Q => (((σ.1 0 7) ≤ v3 → Q (some (.int v2)) σ) ∧ (¬ (σ.1 0 7) ≤ v3 → vp_in v3 10 ∧ (((σ.1 6 v3.toNatClampNeg) = 0 → w_X9_told_85 f (v2 ||| (0 : Int32)) (v3 + (1 : Int32)) σ Q) ∧ (¬ (σ.1 6 v3.toNatClampNeg) = 0 → w_X9_told_85 f (v2 ||| ((1 : Int32) <<< (v3 &&& 31))) (v3 + (1 : Int32)) σ Q))))
theorem x_X9_told_85 : ∀ (f : Nat) (v2 : Int32) (v3 : Int32) (g1 : Option Value) (σ : ds_S) (Q : Option Value → ds_S → Prop), w_X9_told_85 f v2 v3 σ Q → ds_X mt_X9_told Ym 85 [some (.ref 0), g1, some (.int v2), some (.int v3)] [] σ Q := by
  intro f
  induction f with
  | zero => intro v2 v3 g1 σ Q h; exact False.elim h
  | succ f ih =>
    intro v2 v3 g1 σ Q h
    rw [w_X9_told_85] at h
    refine ds_blk (ls2 := [some (.ref 0), g1, some (.int v2), some (.int v3)]) (st2 := [.int (σ.1 0 7), .int v3]) (σ2 := σ) ok_X9_told 35 3 85 90 [ds_k Ym 0 9] rfl rfl rfl rfl ⟨⟨by decide, rfl⟩, trivial⟩ ?_
    refine ds_ic_ge (show decode mt_X9_told.2.1 90 = .ok (.if_icmp .ge 28, 3) from ds_dec (i := (90, .if_icmp .ge 28, 3, 0, 0, 0, .int 0)) ok_X9_told 38 rfl) (t := 118) (by decide) (fun hc => ?_) (fun hc => ?_)
    · replace h := h.1 hc
      refine ds_blk (ls2 := [some (.ref 0), g1, some (.int v2), some (.int v3)]) (st2 := [.int v2]) (σ2 := σ) ok_X9_told 54 1 118 119 [] rfl rfl rfl rfl trivial ?_
      exact ds_iret (show decode mt_X9_told.2.1 119 = .ok (.ireturn, 1) from ds_dec (i := (119, .ireturn, 1, 0, 0, 0, .int 0)) ok_X9_told 55 rfl) rfl h
    · replace h := h.2 hc
      obtain ⟨o1, h⟩ := h
      refine ds_blk (ls2 := [some (.ref 0), g1, some (.int v2), some (.int v3)]) (st2 := [.int (σ.1 6 v3.toNatClampNeg), .int v2]) (σ2 := σ) ok_X9_told 39 5 93 100 [ds_k Ym 0 9, ds_k Ym 6 12, vp_in v3 10] rfl rfl rfl rfl ⟨⟨by decide, rfl⟩, ⟨by decide, rfl⟩, o1, trivial⟩ ?_
      refine ds_if_eq (show decode mt_X9_told.2.1 100 = .ok (.ifCond .eq 9, 3) from ds_dec (i := (100, .ifCond .eq 9, 3, 0, 0, 0, .int 0)) ok_X9_told 44 rfl) (t := 109) (by decide) (fun hc => ?_) (fun hc => ?_)
      · replace h := h.1 hc
        refine ds_blk (ls2 := [some (.ref 0), (ds_nl g1), some (.int (v2 ||| (0 : Int32))), some (.int (v3 + (1 : Int32)))]) (st2 := []) (σ2 := σ) ok_X9_told 49 4 109 115 [] rfl rfl rfl rfl trivial ?_
        refine ds_goto (show decode mt_X9_told.2.1 115 = .ok (.goto (-30), 3) from ds_dec (i := (115, .goto (-30), 3, 0, 0, 0, .int 0)) ok_X9_told 53 rfl) (t := 85) (by decide) ?_
        exact ih (v2 ||| (0 : Int32)) (v3 + (1 : Int32)) _ σ Q h
      · replace h := h.2 hc
        refine ds_blk (ls2 := [some (.ref 0), g1, some (.int v2), some (.int v3)]) (st2 := [.int ((1 : Int32) <<< (v3 &&& 31)), .int v2]) (σ2 := σ) ok_X9_told 45 3 103 106 [] rfl rfl rfl rfl trivial ?_
        refine ds_goto (show decode mt_X9_told.2.1 106 = .ok (.goto 4, 3) from ds_dec (i := (106, .goto 4, 3, 0, 0, 0, .int 0)) ok_X9_told 48 rfl) (t := 110) (by decide) ?_
        refine ds_blk (ls2 := [some (.ref 0), (ds_nl g1), some (.int (v2 ||| ((1 : Int32) <<< (v3 &&& 31)))), some (.int (v3 + (1 : Int32)))]) (st2 := []) (σ2 := σ) ok_X9_told 50 3 110 115 [] rfl rfl rfl rfl trivial ?_
        refine ds_goto (show decode mt_X9_told.2.1 115 = .ok (.goto (-30), 3) from ds_dec (i := (115, .goto (-30), 3, 0, 0, 0, .int 0)) ok_X9_told 53 rfl) (t := 85) (by decide) ?_
        exact ih (v2 ||| ((1 : Int32) <<< (v3 &&& 31))) (v3 + (1 : Int32)) _ σ Q h
def w_X9_told_157 : Nat → (v1 : Int32) → (v2 : Int32) → (v3 : Int32) → (σ : ds_S) → (Q : Option Value → ds_S → Prop) → Prop
  | 0, _, _, _, _, _ => False
  | f + 1, v1, v2, v3, σ, Q => (((((36 : Int32) * (v1 - (5 : Int32))) + (36 : Int32)) ≤ v3 → Q (some (.int v2)) σ) ∧ (¬ (((36 : Int32) * (v1 - (5 : Int32))) + (36 : Int32)) ≤ v3 → vp_in v3 108 ∧ w_X9_told_157 f v1 (v2 + (σ.1 7 v3.toNatClampNeg)) (v3 + (1 : Int32)) σ Q))
theorem x_X9_told_157 : ∀ (f : Nat) (v1 : Int32) (v2 : Int32) (v3 : Int32) (σ : ds_S) (Q : Option Value → ds_S → Prop), w_X9_told_157 f v1 v2 v3 σ Q → ds_X mt_X9_told Ym 157 [some (.ref 0), some (.int v1), some (.int v2), some (.int v3)] [] σ Q := by
  intro f
  induction f with
  | zero => intro v1 v2 v3 σ Q h; exact False.elim h
  | succ f ih =>
    intro v1 v2 v3 σ Q h
    rw [w_X9_told_157] at h
    refine ds_blk (ls2 := [some (.ref 0), some (.int v1), some (.int v2), some (.int v3)]) (st2 := [.int (((36 : Int32) * (v1 - (5 : Int32))) + (36 : Int32)), .int v3]) (σ2 := σ) ok_X9_told 77 8 157 167 [] rfl rfl rfl rfl trivial ?_
    refine ds_ic_ge (show decode mt_X9_told.2.1 167 = .ok (.if_icmp .ge 18, 3) from ds_dec (i := (167, .if_icmp .ge 18, 3, 0, 0, 0, .int 0)) ok_X9_told 85 rfl) (t := 185) (by decide) (fun hc => ?_) (fun hc => ?_)
    · replace h := h.1 hc
      refine ds_blk (ls2 := [some (.ref 0), some (.int v1), some (.int v2), some (.int v3)]) (st2 := [.int v2]) (σ2 := σ) ok_X9_told 95 1 185 186 [] rfl rfl rfl rfl trivial ?_
      exact ds_iret (show decode mt_X9_told.2.1 186 = .ok (.ireturn, 1) from ds_dec (i := (186, .ireturn, 1, 0, 0, 0, .int 0)) ok_X9_told 96 rfl) rfl h
    · replace h := h.2 hc
      obtain ⟨o1, h⟩ := h
      refine ds_blk (ls2 := [some (.ref 0), some (.int v1), some (.int (v2 + (σ.1 7 v3.toNatClampNeg))), some (.int (v3 + (1 : Int32)))]) (st2 := []) (σ2 := σ) ok_X9_told 86 8 170 182 [ds_k Ym 0 9, ds_k Ym 7 10, vp_in v3 108] rfl rfl rfl rfl ⟨⟨by decide, rfl⟩, ⟨by decide, rfl⟩, o1, trivial⟩ ?_
      refine ds_goto (show decode mt_X9_told.2.1 182 = .ok (.goto (-25), 3) from ds_dec (i := (182, .goto (-25), 3, 0, 0, 0, .int 0)) ok_X9_told 94 rfl) (t := 157) (by decide) ?_
      exact ih v1 (v2 + (σ.1 7 v3.toNatClampNeg)) (v3 + (1 : Int32)) σ Q h
def w_X9_told (a1 : Int32) (σ : ds_S) (Q : Option Value → ds_S → Prop) : Prop := ((a1.toInt < 0 ∨ 4 < a1.toInt → ((¬ (q_in a1.toInt64 (5 : Int64) (7 : Int64)) = 0 → ∃ n, w_X9_told_157 n a1 (0 : Int32) ((36 : Int32) * (a1 - (5 : Int32))) σ Q) ∧ ((q_in a1.toInt64 (5 : Int64) (7 : Int64)) = 0 → Q (some (.int (-2 : Int32))) σ))) ∧ (a1 = (0 : Int32) → Q (some (.int (σ.1 0 0))) σ) ∧ (a1 = (1 : Int32) → Q (some (.int (σ.1 0 7))) σ) ∧ (a1 = (2 : Int32) → ∃ n, w_X9_told_48 n (0 : Int32) (0 : Int32) σ Q) ∧ (a1 = (3 : Int32) → ∃ n, w_X9_told_85 n (0 : Int32) (0 : Int32) σ Q) ∧ (a1 = (4 : Int32) → (((σ.1 0 9) = 0 → Q (some (.int (0 : Int32))) σ) ∧ (¬ (σ.1 0 9) = 0 → Q (some (.int (1 : Int32))) σ))))
theorem e_X9_told (a1 : Int32) (σ : ds_S) (Q : Option Value → ds_S → Prop) (h : w_X9_told a1 σ Q) : ds_E mt_X9_told Ym [.ref 0, .int a1] σ Q := by
  refine ds_enter (by decide) (Nat.le_of_ble_eq_true rfl) ?_
  show ds_X mt_X9_told Ym 0 [some (.ref 0), some (.int a1), none, none] [] σ Q
  unfold w_X9_told at h
  refine ds_blk (ls2 := [some (.ref 0), some (.int a1), some (.int (0 : Int32)), none]) (st2 := [.int a1]) (σ2 := σ) ok_X9_told 0 3 0 3 [] rfl rfl rfl rfl trivial ?_
  refine ds_table (show decode mt_X9_told.2.1 3 = .ok (.tableswitch 130 0 4 #[33, 38, 43, 80, 117], 33) from ds_dec (i := (3, .tableswitch 130 0 4 #[33, 38, 43, 80, 117], 33, 0, 0, 0, .int 0)) ok_X9_told 3 rfl) 133 (by decide) (fun hc => ?_) (fun hc1 hc2 => ?_)
  · replace h := h.1 hc
    refine ds_blk (ls2 := [some (.ref 0), some (.int a1), some (.int (0 : Int32)), none]) (st2 := [.long (7 : Int64), .long (5 : Int64), .long a1.toInt64]) (σ2 := σ) ok_X9_told 63 4 133 141 [] rfl rfl rfl rfl trivial ?_
    refine ds_callS (z := mt_X9_in) (as := [.long a1.toInt64, .long (5 : Int64), .long (7 : Int64)]) (rest := []) (show decode mt_X9_told.2.1 141 = .ok (.invokestatic 73, 3) from ds_dec (i := (141, .invokestatic 73, 3, 0, 0, 836, .int 0)) ok_X9_told 67 rfl) (ds_E.mono (sp_X9_in a1.toInt64 (5 : Int64) (7 : Int64) σ ) (fun r σ1 hr => ?_)) ⟨zw_X9_in.1, zw_X9_in.2.1, zw_X9_in.2.2, by decide, by decide⟩ (ds_wb_T (p := 836) (by decide +kernel)) zt_X9_in (Nat.le_of_ble_eq_true rfl)
    obtain ⟨x9, rfl, e8, e9⟩ := hr
    rw [e8, e9]
    show ds_X mt_X9_told Ym 144 [some (.ref 0), some (.int a1), some (.int (0 : Int32)), none] [.int (q_in a1.toInt64 (5 : Int64) (7 : Int64))] σ Q
    refine ds_if_ne (show decode mt_X9_told.2.1 144 = .ok (.ifCond .ne 6, 3) from ds_dec (i := (144, .ifCond .ne 6, 3, 0, 0, 0, .int 0)) ok_X9_told 68 rfl) (t := 150) (by decide) (fun hc => ?_) (fun hc => ?_)
    · replace h := h.1 hc
      refine ds_blk (ls2 := [some (.ref 0), some (.int a1), some (.int (0 : Int32)), some (.int ((36 : Int32) * (a1 - (5 : Int32))))]) (st2 := []) (σ2 := σ) ok_X9_told 71 6 150 157 [] rfl rfl rfl rfl trivial ?_
      obtain ⟨n, h⟩ := h
      refine x_X9_told_157 n a1 (0 : Int32) ((36 : Int32) * (a1 - (5 : Int32))) σ Q h
    · replace h := h.2 hc
      refine ds_blk (ls2 := [some (.ref 0), some (.int a1), some (.int (0 : Int32)), none]) (st2 := [.int (-2 : Int32)]) (σ2 := σ) ok_X9_told 69 1 147 149 [] rfl rfl rfl rfl trivial ?_
      exact ds_iret (show decode mt_X9_told.2.1 149 = .ok (.ireturn, 1) from ds_dec (i := (149, .ireturn, 1, 0, 0, 0, .int 0)) ok_X9_told 70 rfl) rfl h
  · have hcs : a1.toInt = 0 ∨ a1.toInt = 1 ∨ a1.toInt = 2 ∨ a1.toInt = 3 ∨ a1.toInt = 4 := by omega
    rcases hcs with e | e | e | e | e
    · refine ⟨33, 36, by rw [e]; rfl, by decide, ?_⟩
      replace h := h.2.1 (Int32.toInt_inj.mp (by rw [e]; rfl))
      refine ds_blk (ls2 := [some (.ref 0), some (.int a1), some (.int (0 : Int32)), none]) (st2 := [.int (σ.1 0 0)]) (σ2 := σ) ok_X9_told 4 2 36 40 [ds_k Ym 0 9] rfl rfl rfl rfl ⟨⟨by decide, rfl⟩, trivial⟩ ?_
      exact ds_iret (show decode mt_X9_told.2.1 40 = .ok (.ireturn, 1) from ds_dec (i := (40, .ireturn, 1, 0, 0, 0, .int 0)) ok_X9_told 6 rfl) rfl h
    · refine ⟨38, 41, by rw [e]; rfl, by decide, ?_⟩
      replace h := h.2.2.1 (Int32.toInt_inj.mp (by rw [e]; rfl))
      refine ds_blk (ls2 := [some (.ref 0), some (.int a1), some (.int (0 : Int32)), none]) (st2 := [.int (σ.1 0 7)]) (σ2 := σ) ok_X9_told 7 2 41 45 [ds_k Ym 0 9] rfl rfl rfl rfl ⟨⟨by decide, rfl⟩, trivial⟩ ?_
      exact ds_iret (show decode mt_X9_told.2.1 45 = .ok (.ireturn, 1) from ds_dec (i := (45, .ireturn, 1, 0, 0, 0, .int 0)) ok_X9_told 9 rfl) rfl h
    · refine ⟨43, 46, by rw [e]; rfl, by decide, ?_⟩
      replace h := h.2.2.2.1 (Int32.toInt_inj.mp (by rw [e]; rfl))
      refine ds_blk (ls2 := [some (.ref 0), some (.int a1), some (.int (0 : Int32)), some (.int (0 : Int32))]) (st2 := []) (σ2 := σ) ok_X9_told 10 2 46 48 [] rfl rfl rfl rfl trivial ?_
      obtain ⟨n, h⟩ := h
      refine x_X9_told_48 n (0 : Int32) (0 : Int32) _ σ Q h
    · refine ⟨80, 83, by rw [e]; rfl, by decide, ?_⟩
      replace h := h.2.2.2.2.1 (Int32.toInt_inj.mp (by rw [e]; rfl))
      refine ds_blk (ls2 := [some (.ref 0), some (.int a1), some (.int (0 : Int32)), some (.int (0 : Int32))]) (st2 := []) (σ2 := σ) ok_X9_told 33 2 83 85 [] rfl rfl rfl rfl trivial ?_
      obtain ⟨n, h⟩ := h
      refine x_X9_told_85 n (0 : Int32) (0 : Int32) _ σ Q h
    · refine ⟨117, 120, by rw [e]; rfl, by decide, ?_⟩
      replace h := h.2.2.2.2.2 (Int32.toInt_inj.mp (by rw [e]; rfl))
      refine ds_blk (ls2 := [some (.ref 0), some (.int a1), some (.int (0 : Int32)), none]) (st2 := [.int (σ.1 0 9)]) (σ2 := σ) ok_X9_told 56 2 120 124 [ds_k Ym 0 9] rfl rfl rfl rfl ⟨⟨by decide, rfl⟩, trivial⟩ ?_
      refine ds_if_eq (show decode mt_X9_told.2.1 124 = .ok (.ifCond .eq 7, 3) from ds_dec (i := (124, .ifCond .eq 7, 3, 0, 0, 0, .int 0)) ok_X9_told 58 rfl) (t := 131) (by decide) (fun hc => ?_) (fun hc => ?_)
      · replace h := h.1 hc
        refine ds_blk (ls2 := [some (.ref 0), some (.int a1), some (.int (0 : Int32)), none]) (st2 := [.int (0 : Int32)]) (σ2 := σ) ok_X9_told 61 1 131 132 [] rfl rfl rfl rfl trivial ?_
        exact ds_iret (show decode mt_X9_told.2.1 132 = .ok (.ireturn, 1) from ds_dec (i := (132, .ireturn, 1, 0, 0, 0, .int 0)) ok_X9_told 62 rfl) rfl h
      · replace h := h.2 hc
        refine ds_blk (ls2 := [some (.ref 0), some (.int a1), some (.int (0 : Int32)), none]) (st2 := [.int (1 : Int32)]) (σ2 := σ) ok_X9_told 59 1 127 128 [] rfl rfl rfl rfl trivial ?_
        refine ds_goto (show decode mt_X9_told.2.1 128 = .ok (.goto 4, 3) from ds_dec (i := (128, .goto 4, 3, 0, 0, 0, .int 0)) ok_X9_told 60 rfl) (t := 132) (by decide) ?_
        exact ds_iret (show decode mt_X9_told.2.1 132 = .ok (.ireturn, 1) from ds_dec (i := (132, .ireturn, 1, 0, 0, 0, .int 0)) ok_X9_told 62 rfl) rfl h
